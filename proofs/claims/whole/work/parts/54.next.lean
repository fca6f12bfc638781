/-! turns: the reference -/
theorem nx_o (a b : Nat) : nI a ||| nI b = nI (a ||| b) := Int32.toBitVec_inj.mp (by
  show BitVec.ofNat 32 a ||| BitVec.ofNat 32 b = BitVec.ofNat 32 (a ||| b)
  apply BitVec.eq_of_toNat_eq
  simp [Nat.or_mod_two_pow])
theorem nx_sb0 : ∀ b, b < 2 → ∀ o, o < 6 → nI b <<< (nI o &&& 31) = nI (b * 2 ^ o) := by decide +kernel
theorem nx_sb {b o : Nat} (hb : b < 2) (ho : o < 6) : nI b <<< (nI o &&& 31) = nI (b * 2 ^ o) := nx_sb0 b hb o ho
def zfwq (f : Nat → Nat) (c : Nat) : Nat → Nat
  | 0 => 0
  | n + 1 => zfwq f c n ||| c / 2 ^ n % 2 * 2 ^ f n
theorem zfwq_lt {f : Nat → Nat} {c : Nat} : ∀ {n : Nat}, (∀ w, w < n → f w < 6) → zfwq f c n < 64
  | 0, _ => by show 0 < 64; decide
  | n + 1, h => by
    refine Nat.or_lt_two_pow (n := 6) (zfwq_lt (fun w hw => h w (by omega))) ?_
    have h1 := z_w64 (h n (by omega))
    have h2 : c / 2 ^ n % 2 < 2 := Nat.mod_lt _ (by decide)
    rcases (show c / 2 ^ n % 2 = 0 ∨ c / 2 ^ n % 2 = 1 by omega) with e | e
    · rw [e, Nat.zero_mul]; decide
    · rw [e, Nat.one_mul]; exact h1
theorem zfwq_bit {f : Nat → Nat} {c b : Nat} : ∀ {n : Nat}, (zfwq f c n).testBit b = true ↔ ∃ w, w < n ∧ f w = b ∧ c.testBit w = true
  | 0 => by
    show Nat.testBit 0 b = true ↔ _
    rw [Nat.zero_testBit]
    exact ⟨fun h => (by cases h), fun ⟨w, h, _⟩ => absurd h (by omega)⟩
  | n + 1 => by
    show (zfwq f c n ||| c / 2 ^ n % 2 * 2 ^ f n).testBit b = true ↔ _
    rw [Nat.testBit_or, Bool.or_eq_true, zfwq_bit (n := n)]
    have h2 : (c / 2 ^ n % 2 * 2 ^ f n).testBit b = true ↔ f n = b ∧ c.testBit n = true := by
      rw [Nat.testBit_eq_decide_div_mod_eq (x := c), decide_eq_true_eq]
      rcases (show c / 2 ^ n % 2 = 0 ∨ c / 2 ^ n % 2 = 1 by omega) with e | e
      · rw [e, Nat.zero_mul, Nat.zero_testBit]
        exact ⟨fun h => (by cases h), fun h => (by cases h.2)⟩
      · rw [e, Nat.one_mul, Nat.testBit_two_pow, decide_eq_true_eq]
        exact ⟨fun h => ⟨h, rfl⟩, fun h => h.1⟩
    rw [h2]
    constructor
    · rintro (⟨w, h1, h2⟩ | h)
      · exact ⟨w, by omega, h2⟩
      · exact ⟨n, by omega, h⟩
    · rintro ⟨w, h1, h3⟩
      by_cases e : w = n
      · subst e; exact Or.inr h3
      · exact Or.inl ⟨w, by omega, h3⟩
theorem zfwq_tau {D q c : Nat} (hD : 1 ≤ D ∧ D ≤ 6) (hq : q ∈ zpo D) (hc : c < 2 ^ D) : zfwq (zdx q) c D = ztau (zinv q) c := by
  have ok := zpo_ok D (by omega) hD.1 q hq
  refine z_bits6 (zfwq_lt (fun w hw => (ok w (by omega)).2.1)) (ztau_lt _ _) (fun b hb => ?_)
  rw [ztau_bit, decide_eq_true hb, Bool.true_and, Bool.eq_iff_iff, zfwq_bit]
  constructor
  · rintro ⟨w, h1, h2, h3⟩
    have := (ok w (by omega)).1
    rw [h2] at this
    rw [this]
    exact h3
  · intro h
    have hlt : zinv q b < D := by
      refine Nat.lt_of_not_le (fun h2 => ?_)
      have h4 : c < 2 ^ zinv q b := Nat.lt_of_lt_of_le hc (Nat.pow_le_pow_right (by decide) h2)
      rw [Nat.testBit_lt_two_pow h4] at h
      cases h
    exact ⟨zinv q b, hlt, (ok b hb).2.2.1, h⟩
theorem m_turned {X : zX} {H : zHp} {D c : Nat} {f : Nat → Nat} {Q : Option Value → zHp → Prop} (hD : D ≤ 6) (hc : c < 64) (hf : ∀ w, w < D → f w < 6) (ho : ∀ w, w < D → H.2.1 60 w = nI (f w)) (hQ : Q (some (.int (nI (zfwq f c D)))) H) : zCall X 153 65 [.int (nI c), .ref 60, .int (nI D)] H Q := by
  refine zgo_call 20 (by decide) (by decide +kernel) True.intro ?_
  simp (disch := first | assumption | omega) only [l_g0, l_gs, l_s0, l_s1, l_ss, l_sn0, l_sns, l_ki, l_kr, l_kl, l_ka, l_en, l_ei, l_er, t_I, t_R, t_W0, t_Wi, t_Wr, t_v0, t_v2, t_v3, i_p1, i_m1, t_k0, t_k1, k_some, k_none, true_and, and_true, ite_true, ite_false, Fin.isValue, l_t0, l_t1, l_ts, l_tn0, l_tns, l_el, t_L, t_Wl, t_v1, t_l0, t_l1, List.tail_cons, List.tail_nil, e_aload_n_1, e_goto1N, e_iaload0, e_iand, e_icmp_ge0N, e_iconst, e_iinc, e_iload, e_iload_n_0, e_iload_n_2, e_iload_n_3, e_ior, e_ireturn, e_ishl, e_ishr, e_istore, e_istore_n_3, e_nop1N, b153_0, b153_1, b153_2, q153_0, q153_1, q153_2, zE153, o_0, o_1, o_2, a_2, w_2, o_3, a_3, w_3, o_4, o_5, a_5, w_5, o_6, o_7, a_7, w_7, o_8, o_9, a_9, w_9, o_10, o_11, a_11, w_11, o_12, o_13, a_13, w_13, o_14, o_15, o_16, a_16, w_16, o_17, a_17, w_17, o_18, a_18, w_18, o_19, a_19, w_19, o_20, a_20, w_20, o_21, o_22, a_22, w_22, o_23, o_24, a_24, w_24, o_25, a_25, w_25, o_50, o_51, a_51, w_51, o_52, a_52, w_52, o_53, a_53, w_53, o_54, a_54, w_54, o_55, a_55, w_55, o_56, a_56, w_56, o_57, a_57, w_57, o_58, a_58, w_58, o_59, a_59, w_59, o_60, a_60, w_60, o_61, a_61, w_61, o_62, a_62, w_62, o_63, a_63, w_63, o_64, a_64, w_64, o_rp, o_rs, a_rs, w_rs, r_0_0, r_0_1, r_0_2, r_0_3, r_0_4, r_0_5, r_0_6, r_0_7, r_0_12, r_1_3, r_4_0, r_4_1, r_6_0, r_8_0, r_10_2, r_12_2, r_14_0, r_14_1, r_14_2, r_14_3, r_14_4, r_14_5, r_15_2, r_21_0, r_23_0, r_50_1, r_50_5, r_50_6, r_50_7, r_50_8, r_50_10, r_50_11, r_50_12, r_50_13, r_50_14, r_50_17, r_50_18, r_50_21, r_50_23, r_rp, r_rs, h_Fs, h_FF, h_FI, h_FL, h_Is, h_II, h_IF, h_IL, h_Ls, h_LL, h_LF, h_LI, nI_ltT, nI_ltF, nI_leT, nI_leF, nI_eqT, nI_eqF, ng_ltT, ng_ltF, ng_leT, ng_leF, ng_eqF, ng_eqG, n_ltT, n_leT, n_ltF, n_leF, n_eqF, n_eqG, ng_inj, zix_nI, zinR_nI, nI_add, ↓reduceIte, true_or, or_true, or_self, not_true, not_false, Nat.reduceAdd, l_s0g, l_s1g, l_t0g, List.tail_cons, List.tail_nil]
  refine zfor (R := fun w H' => H' = H) (fun w H' => zAt X 153 65 65 1 [.int (nI c), .ref 60, .int (nI D), .int (nI (zfwq f c w)), .int (nI w)] [] H' Q) D ?_ ?_ 0 H (Nat.zero_le _) rfl
  · rintro H' rfl
    refine zgo_at 20 ?_
    simp (disch := first | assumption | omega) only [l_g0, l_gs, l_s0, l_s1, l_ss, l_sn0, l_sns, l_ki, l_kr, l_kl, l_ka, l_en, l_ei, l_er, t_I, t_R, t_W0, t_Wi, t_Wr, t_v0, t_v2, t_v3, i_p1, i_m1, t_k0, t_k1, k_some, k_none, true_and, and_true, ite_true, ite_false, Fin.isValue, l_t0, l_t1, l_ts, l_tn0, l_tns, l_el, t_L, t_Wl, t_v1, t_l0, t_l1, List.tail_cons, List.tail_nil, e_aload_n_1, e_goto1N, e_iaload0, e_iand, e_icmp_ge0N, e_iconst, e_iinc, e_iload, e_iload_n_0, e_iload_n_2, e_iload_n_3, e_ior, e_ireturn, e_ishl, e_ishr, e_istore, e_istore_n_3, e_nop1N, b153_0, b153_1, b153_2, q153_0, q153_1, q153_2, zE153, o_0, o_1, o_2, a_2, w_2, o_3, a_3, w_3, o_4, o_5, a_5, w_5, o_6, o_7, a_7, w_7, o_8, o_9, a_9, w_9, o_10, o_11, a_11, w_11, o_12, o_13, a_13, w_13, o_14, o_15, o_16, a_16, w_16, o_17, a_17, w_17, o_18, a_18, w_18, o_19, a_19, w_19, o_20, a_20, w_20, o_21, o_22, a_22, w_22, o_23, o_24, a_24, w_24, o_25, a_25, w_25, o_50, o_51, a_51, w_51, o_52, a_52, w_52, o_53, a_53, w_53, o_54, a_54, w_54, o_55, a_55, w_55, o_56, a_56, w_56, o_57, a_57, w_57, o_58, a_58, w_58, o_59, a_59, w_59, o_60, a_60, w_60, o_61, a_61, w_61, o_62, a_62, w_62, o_63, a_63, w_63, o_64, a_64, w_64, o_rp, o_rs, a_rs, w_rs, r_0_0, r_0_1, r_0_2, r_0_3, r_0_4, r_0_5, r_0_6, r_0_7, r_0_12, r_1_3, r_4_0, r_4_1, r_6_0, r_8_0, r_10_2, r_12_2, r_14_0, r_14_1, r_14_2, r_14_3, r_14_4, r_14_5, r_15_2, r_21_0, r_23_0, r_50_1, r_50_5, r_50_6, r_50_7, r_50_8, r_50_10, r_50_11, r_50_12, r_50_13, r_50_14, r_50_17, r_50_18, r_50_21, r_50_23, r_rp, r_rs, h_Fs, h_FF, h_FI, h_FL, h_Is, h_II, h_IF, h_IL, h_Ls, h_LL, h_LF, h_LI, nI_ltT, nI_ltF, nI_leT, nI_leF, nI_eqT, nI_eqF, ng_ltT, ng_ltF, ng_leT, ng_leF, ng_eqF, ng_eqG, n_ltT, n_leT, n_ltF, n_leF, n_eqF, n_eqG, ng_inj, zix_nI, zinR_nI, nI_add, ↓reduceIte, true_or, or_true, or_self, not_true, not_false, Nat.reduceAdd, l_s0g, l_s1g, l_t0g, List.tail_cons, List.tail_nil]
    exact hQ
  · rintro w H' hw rfl ih
    have ih := ih H' rfl
    have e : zfwq f c (w + 1) = zfwq f c w ||| c / 2 ^ w % 2 * 2 ^ f w := rfl
    rw [e] at ih
    have e1 := ho w hw
    have e2 := hf w hw
    have e3 : c / 2 ^ w % 2 < 2 := Nat.mod_lt _ (by decide)
    refine zgo_at 20 ?_
    simp (disch := first | assumption | omega) only [l_g0, l_gs, l_s0, l_s1, l_ss, l_sn0, l_sns, l_ki, l_kr, l_kl, l_ka, l_en, l_ei, l_er, t_I, t_R, t_W0, t_Wi, t_Wr, t_v0, t_v2, t_v3, i_p1, i_m1, t_k0, t_k1, k_some, k_none, true_and, and_true, ite_true, ite_false, Fin.isValue, l_t0, l_t1, l_ts, l_tn0, l_tns, l_el, t_L, t_Wl, t_v1, t_l0, t_l1, List.tail_cons, List.tail_nil, e_aload_n_1, e_goto1N, e_iaload0, e_iand, e_icmp_ge0N, e_iconst, e_iinc, e_iload, e_iload_n_0, e_iload_n_2, e_iload_n_3, e_ior, e_ireturn, e_ishl, e_ishr, e_istore, e_istore_n_3, e_nop1N, b153_0, b153_1, b153_2, q153_0, q153_1, q153_2, zE153, o_0, o_1, o_2, a_2, w_2, o_3, a_3, w_3, o_4, o_5, a_5, w_5, o_6, o_7, a_7, w_7, o_8, o_9, a_9, w_9, o_10, o_11, a_11, w_11, o_12, o_13, a_13, w_13, o_14, o_15, o_16, a_16, w_16, o_17, a_17, w_17, o_18, a_18, w_18, o_19, a_19, w_19, o_20, a_20, w_20, o_21, o_22, a_22, w_22, o_23, o_24, a_24, w_24, o_25, a_25, w_25, o_50, o_51, a_51, w_51, o_52, a_52, w_52, o_53, a_53, w_53, o_54, a_54, w_54, o_55, a_55, w_55, o_56, a_56, w_56, o_57, a_57, w_57, o_58, a_58, w_58, o_59, a_59, w_59, o_60, a_60, w_60, o_61, a_61, w_61, o_62, a_62, w_62, o_63, a_63, w_63, o_64, a_64, w_64, o_rp, o_rs, a_rs, w_rs, r_0_0, r_0_1, r_0_2, r_0_3, r_0_4, r_0_5, r_0_6, r_0_7, r_0_12, r_1_3, r_4_0, r_4_1, r_6_0, r_8_0, r_10_2, r_12_2, r_14_0, r_14_1, r_14_2, r_14_3, r_14_4, r_14_5, r_15_2, r_21_0, r_23_0, r_50_1, r_50_5, r_50_6, r_50_7, r_50_8, r_50_10, r_50_11, r_50_12, r_50_13, r_50_14, r_50_17, r_50_18, r_50_21, r_50_23, r_rp, r_rs, h_Fs, h_FF, h_FI, h_FL, h_Is, h_II, h_IF, h_IL, h_Ls, h_LL, h_LF, h_LI, nI_ltT, nI_ltF, nI_leT, nI_leF, nI_eqT, nI_eqF, ng_ltT, ng_ltF, ng_leT, ng_leF, ng_eqF, ng_eqG, n_ltT, n_leT, n_ltF, n_leF, n_eqF, n_eqG, ng_inj, zix_nI, zinR_nI, nI_add, ↓reduceIte, true_or, or_true, or_self, not_true, not_false, Nat.reduceAdd, l_s0g, l_s1g, l_t0g, List.tail_cons, List.tail_nil, nx_r, nx_sb, nx_o, e1]
    exact ih
/-! the next order -/
theorem zdn_le (f : Nat → Nat) : ∀ m, zdn f m ≤ m
  | 0 => Nat.le_refl _
  | m + 1 => by
    have := zdn_le f m
    unfold zdn
    split <;> omega
theorem zdj_le (f : Nat → Nat) (v : Nat) : ∀ m, zdj f v m ≤ m
  | 0 => Nat.le_refl _
  | m + 1 => by
    have := zdj_le f v m
    unfold zdj
    split <;> omega
theorem m_next6 {X : zX} {D : Nat} {Q : Option Value → zHp → Prop} (hD : D ≤ 6) : ∀ (n a b : Nat) (g : Nat → Nat) (H : zHp) (v1 v2 v3 : Int32) (t : List Value), zRf H → (∀ j, j < D → H.2.1 60 j = nI (g j)) → (∀ j, j < D → g j < 6) → a ≤ D → b < D → b ≤ a + n →
    (∀ H', zsm (fun a => a = 60) H H' → (∀ j, j < D → H'.2.1 60 j = nI (zrvs n a b g j)) → Q (some (.int (nI 1))) H') → zAt X 154 65 65 6 (.ref 50 :: .int v1 :: .int v2 :: .int v3 :: .int (nI a) :: .int (nI b) :: t) [] H Q := by
  intro n
  induction n with
  | zero =>
    intro a b g H v1 v2 v3 t hR hg h6 ha hb hn hQ
    have hQ := hQ H zsm_rf hg
    refine zgo_at 20 ?_
    simp (disch := first | assumption | omega) only [l_g0, l_gs, l_s0, l_s1, l_ss, l_sn0, l_sns, l_ki, l_kr, l_kl, l_ka, l_en, l_ei, l_er, t_I, t_R, t_W0, t_Wi, t_Wr, t_v0, t_v2, t_v3, i_p1, i_m1, t_k0, t_k1, k_some, k_none, true_and, and_true, ite_true, ite_false, Fin.isValue, l_t0, l_t1, l_ts, l_tn0, l_tns, l_el, t_L, t_Wl, t_v1, t_l0, t_l1, List.tail_cons, List.tail_nil, e_aload_n_0, e_getfield, e_goto1N, e_iadd, e_iaload0, e_iastore, e_icmp_ge0N, e_icmp_le0N, e_iconst, e_if_ge0N, e_if_lt0N, e_iinc, e_iload, e_iload_n_1, e_iload_n_2, e_iload_n_3, e_ireturn, e_istore, e_istore_n_1, e_istore_n_2, e_istore_n_3, e_isub, e_nop1N, b154_0, b154_1, b154_2, b154_3, b154_4, b154_5, b154_6, b154_7, q154_0, q154_1, q154_2, q154_3, q154_4, q154_5, q154_6, q154_7, zE154, o_0, o_1, o_2, a_2, w_2, o_3, a_3, w_3, o_4, o_5, a_5, w_5, o_6, o_7, a_7, w_7, o_8, o_9, a_9, w_9, o_10, o_11, a_11, w_11, o_12, o_13, a_13, w_13, o_14, o_15, o_16, a_16, w_16, o_17, a_17, w_17, o_18, a_18, w_18, o_19, a_19, w_19, o_20, a_20, w_20, o_21, o_22, a_22, w_22, o_23, o_24, a_24, w_24, o_25, a_25, w_25, o_50, o_51, a_51, w_51, o_52, a_52, w_52, o_53, a_53, w_53, o_54, a_54, w_54, o_55, a_55, w_55, o_56, a_56, w_56, o_57, a_57, w_57, o_58, a_58, w_58, o_59, a_59, w_59, o_60, a_60, w_60, o_61, a_61, w_61, o_62, a_62, w_62, o_63, a_63, w_63, o_64, a_64, w_64, o_rp, o_rs, a_rs, w_rs, r_0_0, r_0_1, r_0_2, r_0_3, r_0_4, r_0_5, r_0_6, r_0_7, r_0_12, r_1_3, r_4_0, r_4_1, r_6_0, r_8_0, r_10_2, r_12_2, r_14_0, r_14_1, r_14_2, r_14_3, r_14_4, r_14_5, r_15_2, r_21_0, r_23_0, r_50_1, r_50_5, r_50_6, r_50_7, r_50_8, r_50_10, r_50_11, r_50_12, r_50_13, r_50_14, r_50_17, r_50_18, r_50_21, r_50_23, r_rp, r_rs, h_Fs, h_FF, h_FI, h_FL, h_Is, h_II, h_IF, h_IL, h_Ls, h_LL, h_LF, h_LI, nI_ltT, nI_ltF, nI_leT, nI_leF, nI_eqT, nI_eqF, ng_ltT, ng_ltF, ng_leT, ng_leF, ng_eqF, ng_eqG, n_ltT, n_leT, n_ltF, n_leF, n_eqF, n_eqG, ng_inj, zix_nI, zinR_nI, nI_add, ↓reduceIte, true_or, or_true, or_self, not_true, not_false, Nat.reduceAdd, l_s0g, l_s1g, l_t0g, List.tail_cons, List.tail_nil]
    exact hQ
  | succ n ih =>
    intro a b g H v1 v2 v3 t hR hg h6 ha hb hn hQ
    by_cases h : a < b
    · have ga := hg a (by omega)
      have gb := hg b hb
      have e : zrvs (n + 1) a b g = zrvs n (a + 1) (b - 1) (zup (zup g a (g b)) b (g a)) := by
        show (if a < b then _ else g) = _
        rw [if_pos h]
      rw [e] at hQ
      have ih := fun v3 => ih (a + 1) (b - 1) (zup (zup g a (g b)) b (g a)) (zsI (zsI H 60 a (nI (g b))) 60 b (nI (g a))) v1 v2 v3 t hR (fun j hj => by
        by_cases e1 : j = b
        · subst e1
          rw [h_Is, zup_s]
        · rw [h_II _ _ _ _ _ _ (by omega), zup_n _ _ _ e1]
          by_cases e2 : j = a
          · subst e2
            rw [h_Is, zup_s]
          · rw [h_II _ _ _ _ _ _ (by omega), zup_n _ _ _ e2]
            exact hg j hj) (fun j hj => by
        by_cases e1 : j = b
        · subst e1
          rw [zup_s]; exact h6 a (by omega)
        · rw [zup_n _ _ _ e1]
          by_cases e2 : j = a
          · subst e2
            rw [zup_s]; exact h6 b hb
          · rw [zup_n _ _ _ e2]; exact h6 j hj) (by omega) (by omega) (by omega) (fun H' k1 k2 => hQ H' (zsm_tr (zsm_I (zsm_I zsm_rf rfl) rfl) k1) k2)
      refine zgo_at 20 ?_
      simp (disch := first | assumption | omega) only [l_g0, l_gs, l_s0, l_s1, l_ss, l_sn0, l_sns, l_ki, l_kr, l_kl, l_ka, l_en, l_ei, l_er, t_I, t_R, t_W0, t_Wi, t_Wr, t_v0, t_v2, t_v3, i_p1, i_m1, t_k0, t_k1, k_some, k_none, true_and, and_true, ite_true, ite_false, Fin.isValue, l_t0, l_t1, l_ts, l_tn0, l_tns, l_el, t_L, t_Wl, t_v1, t_l0, t_l1, List.tail_cons, List.tail_nil, e_aload_n_0, e_getfield, e_goto1N, e_iadd, e_iaload0, e_iastore, e_icmp_ge0N, e_icmp_le0N, e_iconst, e_if_ge0N, e_if_lt0N, e_iinc, e_iload, e_iload_n_1, e_iload_n_2, e_iload_n_3, e_ireturn, e_istore, e_istore_n_1, e_istore_n_2, e_istore_n_3, e_isub, e_nop1N, b154_0, b154_1, b154_2, b154_3, b154_4, b154_5, b154_6, b154_7, q154_0, q154_1, q154_2, q154_3, q154_4, q154_5, q154_6, q154_7, zE154, o_0, o_1, o_2, a_2, w_2, o_3, a_3, w_3, o_4, o_5, a_5, w_5, o_6, o_7, a_7, w_7, o_8, o_9, a_9, w_9, o_10, o_11, a_11, w_11, o_12, o_13, a_13, w_13, o_14, o_15, o_16, a_16, w_16, o_17, a_17, w_17, o_18, a_18, w_18, o_19, a_19, w_19, o_20, a_20, w_20, o_21, o_22, a_22, w_22, o_23, o_24, a_24, w_24, o_25, a_25, w_25, o_50, o_51, a_51, w_51, o_52, a_52, w_52, o_53, a_53, w_53, o_54, a_54, w_54, o_55, a_55, w_55, o_56, a_56, w_56, o_57, a_57, w_57, o_58, a_58, w_58, o_59, a_59, w_59, o_60, a_60, w_60, o_61, a_61, w_61, o_62, a_62, w_62, o_63, a_63, w_63, o_64, a_64, w_64, o_rp, o_rs, a_rs, w_rs, r_0_0, r_0_1, r_0_2, r_0_3, r_0_4, r_0_5, r_0_6, r_0_7, r_0_12, r_1_3, r_4_0, r_4_1, r_6_0, r_8_0, r_10_2, r_12_2, r_14_0, r_14_1, r_14_2, r_14_3, r_14_4, r_14_5, r_15_2, r_21_0, r_23_0, r_50_1, r_50_5, r_50_6, r_50_7, r_50_8, r_50_10, r_50_11, r_50_12, r_50_13, r_50_14, r_50_17, r_50_18, r_50_21, r_50_23, r_rp, r_rs, h_Fs, h_FF, h_FI, h_FL, h_Is, h_II, h_IF, h_IL, h_Ls, h_LL, h_LF, h_LI, nI_ltT, nI_ltF, nI_leT, nI_leF, nI_eqT, nI_eqF, ng_ltT, ng_ltF, ng_leT, ng_leF, ng_eqF, ng_eqG, n_ltT, n_leT, n_ltF, n_leF, n_eqF, n_eqG, ng_inj, zix_nI, zinR_nI, nI_add, ↓reduceIte, true_or, or_true, or_self, not_true, not_false, Nat.reduceAdd, l_s0g, l_s1g, l_t0g, List.tail_cons, List.tail_nil, ga, gb, nI_sub]
      exact ih _
    · have e : zrvs (n + 1) a b g = g := by
        show (if a < b then _ else g) = _
        rw [if_neg h]
      rw [e] at hQ
      have hQ := hQ H zsm_rf hg
      refine zgo_at 20 ?_
      simp (disch := first | assumption | omega) only [l_g0, l_gs, l_s0, l_s1, l_ss, l_sn0, l_sns, l_ki, l_kr, l_kl, l_ka, l_en, l_ei, l_er, t_I, t_R, t_W0, t_Wi, t_Wr, t_v0, t_v2, t_v3, i_p1, i_m1, t_k0, t_k1, k_some, k_none, true_and, and_true, ite_true, ite_false, Fin.isValue, l_t0, l_t1, l_ts, l_tn0, l_tns, l_el, t_L, t_Wl, t_v1, t_l0, t_l1, List.tail_cons, List.tail_nil, e_aload_n_0, e_getfield, e_goto1N, e_iadd, e_iaload0, e_iastore, e_icmp_ge0N, e_icmp_le0N, e_iconst, e_if_ge0N, e_if_lt0N, e_iinc, e_iload, e_iload_n_1, e_iload_n_2, e_iload_n_3, e_ireturn, e_istore, e_istore_n_1, e_istore_n_2, e_istore_n_3, e_isub, e_nop1N, b154_0, b154_1, b154_2, b154_3, b154_4, b154_5, b154_6, b154_7, q154_0, q154_1, q154_2, q154_3, q154_4, q154_5, q154_6, q154_7, zE154, o_0, o_1, o_2, a_2, w_2, o_3, a_3, w_3, o_4, o_5, a_5, w_5, o_6, o_7, a_7, w_7, o_8, o_9, a_9, w_9, o_10, o_11, a_11, w_11, o_12, o_13, a_13, w_13, o_14, o_15, o_16, a_16, w_16, o_17, a_17, w_17, o_18, a_18, w_18, o_19, a_19, w_19, o_20, a_20, w_20, o_21, o_22, a_22, w_22, o_23, o_24, a_24, w_24, o_25, a_25, w_25, o_50, o_51, a_51, w_51, o_52, a_52, w_52, o_53, a_53, w_53, o_54, a_54, w_54, o_55, a_55, w_55, o_56, a_56, w_56, o_57, a_57, w_57, o_58, a_58, w_58, o_59, a_59, w_59, o_60, a_60, w_60, o_61, a_61, w_61, o_62, a_62, w_62, o_63, a_63, w_63, o_64, a_64, w_64, o_rp, o_rs, a_rs, w_rs, r_0_0, r_0_1, r_0_2, r_0_3, r_0_4, r_0_5, r_0_6, r_0_7, r_0_12, r_1_3, r_4_0, r_4_1, r_6_0, r_8_0, r_10_2, r_12_2, r_14_0, r_14_1, r_14_2, r_14_3, r_14_4, r_14_5, r_15_2, r_21_0, r_23_0, r_50_1, r_50_5, r_50_6, r_50_7, r_50_8, r_50_10, r_50_11, r_50_12, r_50_13, r_50_14, r_50_17, r_50_18, r_50_21, r_50_23, r_rp, r_rs, h_Fs, h_FF, h_FI, h_FL, h_Is, h_II, h_IF, h_IL, h_Ls, h_LL, h_LF, h_LI, nI_ltT, nI_ltF, nI_leT, nI_leF, nI_eqT, nI_eqF, ng_ltT, ng_ltF, ng_leT, ng_leF, ng_eqF, ng_eqG, n_ltT, n_leT, n_ltF, n_leF, n_eqF, n_eqG, ng_inj, zix_nI, zinR_nI, nI_add, ↓reduceIte, true_or, or_true, or_self, not_true, not_false, Nat.reduceAdd, l_s0g, l_s1g, l_t0g, List.tail_cons, List.tail_nil]
      exact hQ
theorem m_nextOrder {X : zX} {H : zHp} {S : zU} {f : Nat → Nat} {Q : Option Value → zHp → Prop} (hI : zIM H S) (hS : zUok S) (hf : ∀ j, j < S.1.1 → H.2.1 60 j = nI (f j)) (h6 : ∀ j, j < S.1.1 → f j < 6)
    (h0 : znx S.1.1 f = none → Q (some (.int (nI 0))) H) (h1 : ∀ g, znx S.1.1 f = some g → ∀ H', zsm (fun a => a = 60) H H' → (∀ j, j < S.1.1 → H'.2.1 60 j = nI (g j)) → Q (some (.int (nI 1))) H') : zCall X 154 65 [.ref 50] H Q := by
  have hR := hI.1
  have g := hI.2.1
  have hd1 := hS.1.1
  have hd := hS.1.2.1
  -- the place to change with
  have at4 : ∀ i, zdn f (S.1.1 - 1) = i + 1 → ∀ j, i ≤ j → j < S.1.1 → zdj f (f i) j = zdj f (f i) (S.1.1 - 1) → ∀ t, zAt X 154 65 65 4 (.ref 50 :: .int (nI i) :: .int (nI j) :: t) [] H Q := by
    intro i hi j
    have hil := zdn_le f (S.1.1 - 1)
    have fin : ∀ j, i ≤ j → j < S.1.1 → zdj f (f i) (S.1.1 - 1) = j → ∀ v3 t, zAt X 154 65 65 6 (.ref 50 :: .int (nI i) :: .int (nI j) :: .int v3 :: .int (nI (i + 1)) :: .int (nI (S.1.1 - 1)) :: t) [] (zsI (zsI H 60 i (nI (f j))) 60 j (nI (f i))) Q := by
      intro j hij hj e v3 t
      refine m_next6 hd 6 (i + 1) (S.1.1 - 1) (zup (zup f i (f j)) j (f i)) _ _ _ _ _ hR (fun q hq => ?_) (fun q hq => ?_) (by omega) (by omega) (by omega) (fun H' k1 k2 => h1 _ ?_ H' (zsm_tr (zsm_I (zsm_I zsm_rf rfl) rfl) k1) k2)
      · by_cases e1 : q = j
        · subst e1
          rw [h_Is, zup_s]
        · rw [h_II _ _ _ _ _ _ (by omega), zup_n _ _ _ e1]
          by_cases e2 : q = i
          · subst e2
            rw [h_Is, zup_s]
          · rw [h_II _ _ _ _ _ _ (by omega), zup_n _ _ _ e2]
            exact hf q hq
      · by_cases e1 : q = j
        · subst e1
          rw [zup_s]; exact h6 i (by omega)
        · rw [zup_n _ _ _ e1]
          by_cases e2 : q = i
          · subst e2
            rw [zup_s]; exact h6 j hj
          · rw [zup_n _ _ _ e2]; exact h6 q hq
      · unfold znx
        rw [hi, if_neg (by omega), Nat.add_sub_cancel, e]
    induction j with
    | zero =>
      intro hij hj e t
      have hi0 : i = 0 := by omega
      subst hi0
      have f0 := hf 0 (by omega)
      have l0 := h6 0 (by omega)
      have fin := fun v3 t => fin 0 (Nat.le_refl _) hj e.symm v3 t
      refine zgo_at 20 ?_
      simp (disch := first | assumption | omega) only [l_g0, l_gs, l_s0, l_s1, l_ss, l_sn0, l_sns, l_ki, l_kr, l_kl, l_ka, l_en, l_ei, l_er, t_I, t_R, t_W0, t_Wi, t_Wr, t_v0, t_v2, t_v3, i_p1, i_m1, t_k0, t_k1, k_some, k_none, true_and, and_true, ite_true, ite_false, Fin.isValue, l_t0, l_t1, l_ts, l_tn0, l_tns, l_el, t_L, t_Wl, t_v1, t_l0, t_l1, List.tail_cons, List.tail_nil, e_aload_n_0, e_getfield, e_goto1N, e_iadd, e_iaload0, e_iastore, e_icmp_ge0N, e_icmp_le0N, e_iconst, e_if_ge0N, e_if_lt0N, e_iinc, e_iload, e_iload_n_1, e_iload_n_2, e_iload_n_3, e_ireturn, e_istore, e_istore_n_1, e_istore_n_2, e_istore_n_3, e_isub, e_nop1N, b154_0, b154_1, b154_2, b154_3, b154_4, b154_5, b154_6, b154_7, q154_0, q154_1, q154_2, q154_3, q154_4, q154_5, q154_6, q154_7, zE154, o_0, o_1, o_2, a_2, w_2, o_3, a_3, w_3, o_4, o_5, a_5, w_5, o_6, o_7, a_7, w_7, o_8, o_9, a_9, w_9, o_10, o_11, a_11, w_11, o_12, o_13, a_13, w_13, o_14, o_15, o_16, a_16, w_16, o_17, a_17, w_17, o_18, a_18, w_18, o_19, a_19, w_19, o_20, a_20, w_20, o_21, o_22, a_22, w_22, o_23, o_24, a_24, w_24, o_25, a_25, w_25, o_50, o_51, a_51, w_51, o_52, a_52, w_52, o_53, a_53, w_53, o_54, a_54, w_54, o_55, a_55, w_55, o_56, a_56, w_56, o_57, a_57, w_57, o_58, a_58, w_58, o_59, a_59, w_59, o_60, a_60, w_60, o_61, a_61, w_61, o_62, a_62, w_62, o_63, a_63, w_63, o_64, a_64, w_64, o_rp, o_rs, a_rs, w_rs, r_0_0, r_0_1, r_0_2, r_0_3, r_0_4, r_0_5, r_0_6, r_0_7, r_0_12, r_1_3, r_4_0, r_4_1, r_6_0, r_8_0, r_10_2, r_12_2, r_14_0, r_14_1, r_14_2, r_14_3, r_14_4, r_14_5, r_15_2, r_21_0, r_23_0, r_50_1, r_50_5, r_50_6, r_50_7, r_50_8, r_50_10, r_50_11, r_50_12, r_50_13, r_50_14, r_50_17, r_50_18, r_50_21, r_50_23, r_rp, r_rs, h_Fs, h_FF, h_FI, h_FL, h_Is, h_II, h_IF, h_IL, h_Ls, h_LL, h_LF, h_LI, nI_ltT, nI_ltF, nI_leT, nI_leF, nI_eqT, nI_eqF, ng_ltT, ng_ltF, ng_leT, ng_leF, ng_eqF, ng_eqG, n_ltT, n_leT, n_ltF, n_leF, n_eqF, n_eqG, ng_inj, zix_nI, zinR_nI, nI_add, ↓reduceIte, true_or, or_true, or_self, not_true, not_false, Nat.reduceAdd, l_s0g, l_s1g, l_t0g, List.tail_cons, List.tail_nil, f0, g, nI_sub]
      exact fin _ _
    | succ j ih =>
      intro hij hj e t
      have fi := hf i (by omega)
      have li := h6 i (by omega)
      have fj := hf (j + 1) hj
      have lj := h6 (j + 1) hj
      have e2 : (if f (j + 1) < f i then zdj f (f i) j else j + 1) = zdj f (f i) (S.1.1 - 1) := e
      by_cases h : f (j + 1) < f i
      · rw [if_pos h] at e2
        have hne : i ≠ j + 1 := fun q => by rw [q] at h; omega
        have ih := ih (by omega) (by omega) e2
        refine zgo_at 20 ?_
        simp (disch := first | assumption | omega) only [l_g0, l_gs, l_s0, l_s1, l_ss, l_sn0, l_sns, l_ki, l_kr, l_kl, l_ka, l_en, l_ei, l_er, t_I, t_R, t_W0, t_Wi, t_Wr, t_v0, t_v2, t_v3, i_p1, i_m1, t_k0, t_k1, k_some, k_none, true_and, and_true, ite_true, ite_false, Fin.isValue, l_t0, l_t1, l_ts, l_tn0, l_tns, l_el, t_L, t_Wl, t_v1, t_l0, t_l1, List.tail_cons, List.tail_nil, e_aload_n_0, e_getfield, e_goto1N, e_iadd, e_iaload0, e_iastore, e_icmp_ge0N, e_icmp_le0N, e_iconst, e_if_ge0N, e_if_lt0N, e_iinc, e_iload, e_iload_n_1, e_iload_n_2, e_iload_n_3, e_ireturn, e_istore, e_istore_n_1, e_istore_n_2, e_istore_n_3, e_isub, e_nop1N, b154_0, b154_1, b154_2, b154_3, b154_4, b154_5, b154_6, b154_7, q154_0, q154_1, q154_2, q154_3, q154_4, q154_5, q154_6, q154_7, zE154, o_0, o_1, o_2, a_2, w_2, o_3, a_3, w_3, o_4, o_5, a_5, w_5, o_6, o_7, a_7, w_7, o_8, o_9, a_9, w_9, o_10, o_11, a_11, w_11, o_12, o_13, a_13, w_13, o_14, o_15, o_16, a_16, w_16, o_17, a_17, w_17, o_18, a_18, w_18, o_19, a_19, w_19, o_20, a_20, w_20, o_21, o_22, a_22, w_22, o_23, o_24, a_24, w_24, o_25, a_25, w_25, o_50, o_51, a_51, w_51, o_52, a_52, w_52, o_53, a_53, w_53, o_54, a_54, w_54, o_55, a_55, w_55, o_56, a_56, w_56, o_57, a_57, w_57, o_58, a_58, w_58, o_59, a_59, w_59, o_60, a_60, w_60, o_61, a_61, w_61, o_62, a_62, w_62, o_63, a_63, w_63, o_64, a_64, w_64, o_rp, o_rs, a_rs, w_rs, r_0_0, r_0_1, r_0_2, r_0_3, r_0_4, r_0_5, r_0_6, r_0_7, r_0_12, r_1_3, r_4_0, r_4_1, r_6_0, r_8_0, r_10_2, r_12_2, r_14_0, r_14_1, r_14_2, r_14_3, r_14_4, r_14_5, r_15_2, r_21_0, r_23_0, r_50_1, r_50_5, r_50_6, r_50_7, r_50_8, r_50_10, r_50_11, r_50_12, r_50_13, r_50_14, r_50_17, r_50_18, r_50_21, r_50_23, r_rp, r_rs, h_Fs, h_FF, h_FI, h_FL, h_Is, h_II, h_IF, h_IL, h_Ls, h_LL, h_LF, h_LI, nI_ltT, nI_ltF, nI_leT, nI_leF, nI_eqT, nI_eqF, ng_ltT, ng_ltF, ng_leT, ng_leF, ng_eqF, ng_eqG, n_ltT, n_leT, n_ltF, n_leF, n_eqF, n_eqG, ng_inj, zix_nI, zinR_nI, nI_add, ↓reduceIte, true_or, or_true, or_self, not_true, not_false, Nat.reduceAdd, l_s0g, l_s1g, l_t0g, List.tail_cons, List.tail_nil, fi, fj, g, nI_sub, Nat.add_sub_cancel]
        exact ih _
      · rw [if_neg h] at e2
        have fin := fun v3 t => fin (j + 1) hij hj e2.symm v3 t
        refine zgo_at 20 ?_
        simp (disch := first | assumption | omega) only [l_g0, l_gs, l_s0, l_s1, l_ss, l_sn0, l_sns, l_ki, l_kr, l_kl, l_ka, l_en, l_ei, l_er, t_I, t_R, t_W0, t_Wi, t_Wr, t_v0, t_v2, t_v3, i_p1, i_m1, t_k0, t_k1, k_some, k_none, true_and, and_true, ite_true, ite_false, Fin.isValue, l_t0, l_t1, l_ts, l_tn0, l_tns, l_el, t_L, t_Wl, t_v1, t_l0, t_l1, List.tail_cons, List.tail_nil, e_aload_n_0, e_getfield, e_goto1N, e_iadd, e_iaload0, e_iastore, e_icmp_ge0N, e_icmp_le0N, e_iconst, e_if_ge0N, e_if_lt0N, e_iinc, e_iload, e_iload_n_1, e_iload_n_2, e_iload_n_3, e_ireturn, e_istore, e_istore_n_1, e_istore_n_2, e_istore_n_3, e_isub, e_nop1N, b154_0, b154_1, b154_2, b154_3, b154_4, b154_5, b154_6, b154_7, q154_0, q154_1, q154_2, q154_3, q154_4, q154_5, q154_6, q154_7, zE154, o_0, o_1, o_2, a_2, w_2, o_3, a_3, w_3, o_4, o_5, a_5, w_5, o_6, o_7, a_7, w_7, o_8, o_9, a_9, w_9, o_10, o_11, a_11, w_11, o_12, o_13, a_13, w_13, o_14, o_15, o_16, a_16, w_16, o_17, a_17, w_17, o_18, a_18, w_18, o_19, a_19, w_19, o_20, a_20, w_20, o_21, o_22, a_22, w_22, o_23, o_24, a_24, w_24, o_25, a_25, w_25, o_50, o_51, a_51, w_51, o_52, a_52, w_52, o_53, a_53, w_53, o_54, a_54, w_54, o_55, a_55, w_55, o_56, a_56, w_56, o_57, a_57, w_57, o_58, a_58, w_58, o_59, a_59, w_59, o_60, a_60, w_60, o_61, a_61, w_61, o_62, a_62, w_62, o_63, a_63, w_63, o_64, a_64, w_64, o_rp, o_rs, a_rs, w_rs, r_0_0, r_0_1, r_0_2, r_0_3, r_0_4, r_0_5, r_0_6, r_0_7, r_0_12, r_1_3, r_4_0, r_4_1, r_6_0, r_8_0, r_10_2, r_12_2, r_14_0, r_14_1, r_14_2, r_14_3, r_14_4, r_14_5, r_15_2, r_21_0, r_23_0, r_50_1, r_50_5, r_50_6, r_50_7, r_50_8, r_50_10, r_50_11, r_50_12, r_50_13, r_50_14, r_50_17, r_50_18, r_50_21, r_50_23, r_rp, r_rs, h_Fs, h_FF, h_FI, h_FL, h_Is, h_II, h_IF, h_IL, h_Ls, h_LL, h_LF, h_LI, nI_ltT, nI_ltF, nI_leT, nI_leF, nI_eqT, nI_eqF, ng_ltT, ng_ltF, ng_leT, ng_leF, ng_eqF, ng_eqG, n_ltT, n_leT, n_ltF, n_leF, n_eqF, n_eqG, ng_inj, zix_nI, zinR_nI, nI_add, ↓reduceIte, true_or, or_true, or_self, not_true, not_false, Nat.reduceAdd, l_s0g, l_s1g, l_t0g, List.tail_cons, List.tail_nil, fi, fj, g, nI_sub]
        exact fin _ _
  -- the last place that rises
  have at1 : ∀ m, m < S.1.1 → zdn f m = zdn f (S.1.1 - 1) → ∀ t, zAt X 154 65 65 1 (.ref 50 :: .int (nI m - nI 1) :: t) [] H Q := by
    intro m
    induction m with
    | zero =>
      intro hm e t
      have e0 : nI 0 - nI 1 = -nI 1 := by decide
      have h0 := h0 (by
        unfold znx
        rw [← e]
        rfl)
      refine zgo_at 20 ?_
      simp (disch := first | assumption | omega) only [l_g0, l_gs, l_s0, l_s1, l_ss, l_sn0, l_sns, l_ki, l_kr, l_kl, l_ka, l_en, l_ei, l_er, t_I, t_R, t_W0, t_Wi, t_Wr, t_v0, t_v2, t_v3, i_p1, i_m1, t_k0, t_k1, k_some, k_none, true_and, and_true, ite_true, ite_false, Fin.isValue, l_t0, l_t1, l_ts, l_tn0, l_tns, l_el, t_L, t_Wl, t_v1, t_l0, t_l1, List.tail_cons, List.tail_nil, e_aload_n_0, e_getfield, e_goto1N, e_iadd, e_iaload0, e_iastore, e_icmp_ge0N, e_icmp_le0N, e_iconst, e_if_ge0N, e_if_lt0N, e_iinc, e_iload, e_iload_n_1, e_iload_n_2, e_iload_n_3, e_ireturn, e_istore, e_istore_n_1, e_istore_n_2, e_istore_n_3, e_isub, e_nop1N, b154_0, b154_1, b154_2, b154_3, b154_4, b154_5, b154_6, b154_7, q154_0, q154_1, q154_2, q154_3, q154_4, q154_5, q154_6, q154_7, zE154, o_0, o_1, o_2, a_2, w_2, o_3, a_3, w_3, o_4, o_5, a_5, w_5, o_6, o_7, a_7, w_7, o_8, o_9, a_9, w_9, o_10, o_11, a_11, w_11, o_12, o_13, a_13, w_13, o_14, o_15, o_16, a_16, w_16, o_17, a_17, w_17, o_18, a_18, w_18, o_19, a_19, w_19, o_20, a_20, w_20, o_21, o_22, a_22, w_22, o_23, o_24, a_24, w_24, o_25, a_25, w_25, o_50, o_51, a_51, w_51, o_52, a_52, w_52, o_53, a_53, w_53, o_54, a_54, w_54, o_55, a_55, w_55, o_56, a_56, w_56, o_57, a_57, w_57, o_58, a_58, w_58, o_59, a_59, w_59, o_60, a_60, w_60, o_61, a_61, w_61, o_62, a_62, w_62, o_63, a_63, w_63, o_64, a_64, w_64, o_rp, o_rs, a_rs, w_rs, r_0_0, r_0_1, r_0_2, r_0_3, r_0_4, r_0_5, r_0_6, r_0_7, r_0_12, r_1_3, r_4_0, r_4_1, r_6_0, r_8_0, r_10_2, r_12_2, r_14_0, r_14_1, r_14_2, r_14_3, r_14_4, r_14_5, r_15_2, r_21_0, r_23_0, r_50_1, r_50_5, r_50_6, r_50_7, r_50_8, r_50_10, r_50_11, r_50_12, r_50_13, r_50_14, r_50_17, r_50_18, r_50_21, r_50_23, r_rp, r_rs, h_Fs, h_FF, h_FI, h_FL, h_Is, h_II, h_IF, h_IL, h_Ls, h_LL, h_LF, h_LI, nI_ltT, nI_ltF, nI_leT, nI_leF, nI_eqT, nI_eqF, ng_ltT, ng_ltF, ng_leT, ng_leF, ng_eqF, ng_eqG, n_ltT, n_leT, n_ltF, n_leF, n_eqF, n_eqG, ng_inj, zix_nI, zinR_nI, nI_add, ↓reduceIte, true_or, or_true, or_self, not_true, not_false, Nat.reduceAdd, l_s0g, l_s1g, l_t0g, List.tail_cons, List.tail_nil, e0]
      exact h0
    | succ m ih =>
      intro hm e t
      have f1 := hf m (by omega)
      have l1 := h6 m (by omega)
      have f2 := hf (m + 1) hm
      have l2 := h6 (m + 1) hm
      have e2 : (if f (m + 1) < f m then zdn f m else m + 1) = zdn f (S.1.1 - 1) := e
      have e3 : nI (m + 1) - nI 1 = nI m := by
        rw [nI_sub (by omega), Nat.add_sub_cancel]
      rw [e3]
      by_cases h : f (m + 1) < f m
      · rw [if_pos h] at e2
        have ih := ih (by omega) e2
        refine zgo_at 20 ?_
        simp (disch := first | assumption | omega) only [l_g0, l_gs, l_s0, l_s1, l_ss, l_sn0, l_sns, l_ki, l_kr, l_kl, l_ka, l_en, l_ei, l_er, t_I, t_R, t_W0, t_Wi, t_Wr, t_v0, t_v2, t_v3, i_p1, i_m1, t_k0, t_k1, k_some, k_none, true_and, and_true, ite_true, ite_false, Fin.isValue, l_t0, l_t1, l_ts, l_tn0, l_tns, l_el, t_L, t_Wl, t_v1, t_l0, t_l1, List.tail_cons, List.tail_nil, e_aload_n_0, e_getfield, e_goto1N, e_iadd, e_iaload0, e_iastore, e_icmp_ge0N, e_icmp_le0N, e_iconst, e_if_ge0N, e_if_lt0N, e_iinc, e_iload, e_iload_n_1, e_iload_n_2, e_iload_n_3, e_ireturn, e_istore, e_istore_n_1, e_istore_n_2, e_istore_n_3, e_isub, e_nop1N, b154_0, b154_1, b154_2, b154_3, b154_4, b154_5, b154_6, b154_7, q154_0, q154_1, q154_2, q154_3, q154_4, q154_5, q154_6, q154_7, zE154, o_0, o_1, o_2, a_2, w_2, o_3, a_3, w_3, o_4, o_5, a_5, w_5, o_6, o_7, a_7, w_7, o_8, o_9, a_9, w_9, o_10, o_11, a_11, w_11, o_12, o_13, a_13, w_13, o_14, o_15, o_16, a_16, w_16, o_17, a_17, w_17, o_18, a_18, w_18, o_19, a_19, w_19, o_20, a_20, w_20, o_21, o_22, a_22, w_22, o_23, o_24, a_24, w_24, o_25, a_25, w_25, o_50, o_51, a_51, w_51, o_52, a_52, w_52, o_53, a_53, w_53, o_54, a_54, w_54, o_55, a_55, w_55, o_56, a_56, w_56, o_57, a_57, w_57, o_58, a_58, w_58, o_59, a_59, w_59, o_60, a_60, w_60, o_61, a_61, w_61, o_62, a_62, w_62, o_63, a_63, w_63, o_64, a_64, w_64, o_rp, o_rs, a_rs, w_rs, r_0_0, r_0_1, r_0_2, r_0_3, r_0_4, r_0_5, r_0_6, r_0_7, r_0_12, r_1_3, r_4_0, r_4_1, r_6_0, r_8_0, r_10_2, r_12_2, r_14_0, r_14_1, r_14_2, r_14_3, r_14_4, r_14_5, r_15_2, r_21_0, r_23_0, r_50_1, r_50_5, r_50_6, r_50_7, r_50_8, r_50_10, r_50_11, r_50_12, r_50_13, r_50_14, r_50_17, r_50_18, r_50_21, r_50_23, r_rp, r_rs, h_Fs, h_FF, h_FI, h_FL, h_Is, h_II, h_IF, h_IL, h_Ls, h_LL, h_LF, h_LI, nI_ltT, nI_ltF, nI_leT, nI_leF, nI_eqT, nI_eqF, ng_ltT, ng_ltF, ng_leT, ng_leF, ng_eqF, ng_eqG, n_ltT, n_leT, n_ltF, n_leF, n_eqF, n_eqG, ng_inj, zix_nI, zinR_nI, nI_add, ↓reduceIte, true_or, or_true, or_self, not_true, not_false, Nat.reduceAdd, l_s0g, l_s1g, l_t0g, List.tail_cons, List.tail_nil, f1, f2]
        exact ih _
      · rw [if_neg h] at e2
        have a4 := at4 m e2.symm (S.1.1 - 1) (by omega) (by omega) rfl
        refine zgo_at 20 ?_
        simp (disch := first | assumption | omega) only [l_g0, l_gs, l_s0, l_s1, l_ss, l_sn0, l_sns, l_ki, l_kr, l_kl, l_ka, l_en, l_ei, l_er, t_I, t_R, t_W0, t_Wi, t_Wr, t_v0, t_v2, t_v3, i_p1, i_m1, t_k0, t_k1, k_some, k_none, true_and, and_true, ite_true, ite_false, Fin.isValue, l_t0, l_t1, l_ts, l_tn0, l_tns, l_el, t_L, t_Wl, t_v1, t_l0, t_l1, List.tail_cons, List.tail_nil, e_aload_n_0, e_getfield, e_goto1N, e_iadd, e_iaload0, e_iastore, e_icmp_ge0N, e_icmp_le0N, e_iconst, e_if_ge0N, e_if_lt0N, e_iinc, e_iload, e_iload_n_1, e_iload_n_2, e_iload_n_3, e_ireturn, e_istore, e_istore_n_1, e_istore_n_2, e_istore_n_3, e_isub, e_nop1N, b154_0, b154_1, b154_2, b154_3, b154_4, b154_5, b154_6, b154_7, q154_0, q154_1, q154_2, q154_3, q154_4, q154_5, q154_6, q154_7, zE154, o_0, o_1, o_2, a_2, w_2, o_3, a_3, w_3, o_4, o_5, a_5, w_5, o_6, o_7, a_7, w_7, o_8, o_9, a_9, w_9, o_10, o_11, a_11, w_11, o_12, o_13, a_13, w_13, o_14, o_15, o_16, a_16, w_16, o_17, a_17, w_17, o_18, a_18, w_18, o_19, a_19, w_19, o_20, a_20, w_20, o_21, o_22, a_22, w_22, o_23, o_24, a_24, w_24, o_25, a_25, w_25, o_50, o_51, a_51, w_51, o_52, a_52, w_52, o_53, a_53, w_53, o_54, a_54, w_54, o_55, a_55, w_55, o_56, a_56, w_56, o_57, a_57, w_57, o_58, a_58, w_58, o_59, a_59, w_59, o_60, a_60, w_60, o_61, a_61, w_61, o_62, a_62, w_62, o_63, a_63, w_63, o_64, a_64, w_64, o_rp, o_rs, a_rs, w_rs, r_0_0, r_0_1, r_0_2, r_0_3, r_0_4, r_0_5, r_0_6, r_0_7, r_0_12, r_1_3, r_4_0, r_4_1, r_6_0, r_8_0, r_10_2, r_12_2, r_14_0, r_14_1, r_14_2, r_14_3, r_14_4, r_14_5, r_15_2, r_21_0, r_23_0, r_50_1, r_50_5, r_50_6, r_50_7, r_50_8, r_50_10, r_50_11, r_50_12, r_50_13, r_50_14, r_50_17, r_50_18, r_50_21, r_50_23, r_rp, r_rs, h_Fs, h_FF, h_FI, h_FL, h_Is, h_II, h_IF, h_IL, h_Ls, h_LL, h_LF, h_LI, nI_ltT, nI_ltF, nI_leT, nI_leF, nI_eqT, nI_eqF, ng_ltT, ng_ltF, ng_leT, ng_leF, ng_eqF, ng_eqG, n_ltT, n_leT, n_ltF, n_leF, n_eqF, n_eqG, ng_inj, zix_nI, zinR_nI, nI_add, ↓reduceIte, true_or, or_true, or_self, not_true, not_false, Nat.reduceAdd, l_s0g, l_s1g, l_t0g, List.tail_cons, List.tail_nil, f1, f2, g, nI_sub]
        exact a4 _
  have a1 := at1 (S.1.1 - 1) (by omega) rfl
  have e5 : nI S.1.1 - nI 2 = nI (S.1.1 - 1) - nI 1 := by
    rw [← nI_sub hd1, Int32.sub_eq_add_neg, Int32.sub_eq_add_neg, Int32.sub_eq_add_neg, Int32.add_assoc]
    congr 1
  refine zgo_call 20 (by decide) (by decide +kernel) True.intro ?_
  simp (disch := first | assumption | omega) only [l_g0, l_gs, l_s0, l_s1, l_ss, l_sn0, l_sns, l_ki, l_kr, l_kl, l_ka, l_en, l_ei, l_er, t_I, t_R, t_W0, t_Wi, t_Wr, t_v0, t_v2, t_v3, i_p1, i_m1, t_k0, t_k1, k_some, k_none, true_and, and_true, ite_true, ite_false, Fin.isValue, l_t0, l_t1, l_ts, l_tn0, l_tns, l_el, t_L, t_Wl, t_v1, t_l0, t_l1, List.tail_cons, List.tail_nil, e_aload_n_0, e_getfield, e_goto1N, e_iadd, e_iaload0, e_iastore, e_icmp_ge0N, e_icmp_le0N, e_iconst, e_if_ge0N, e_if_lt0N, e_iinc, e_iload, e_iload_n_1, e_iload_n_2, e_iload_n_3, e_ireturn, e_istore, e_istore_n_1, e_istore_n_2, e_istore_n_3, e_isub, e_nop1N, b154_0, b154_1, b154_2, b154_3, b154_4, b154_5, b154_6, b154_7, q154_0, q154_1, q154_2, q154_3, q154_4, q154_5, q154_6, q154_7, zE154, o_0, o_1, o_2, a_2, w_2, o_3, a_3, w_3, o_4, o_5, a_5, w_5, o_6, o_7, a_7, w_7, o_8, o_9, a_9, w_9, o_10, o_11, a_11, w_11, o_12, o_13, a_13, w_13, o_14, o_15, o_16, a_16, w_16, o_17, a_17, w_17, o_18, a_18, w_18, o_19, a_19, w_19, o_20, a_20, w_20, o_21, o_22, a_22, w_22, o_23, o_24, a_24, w_24, o_25, a_25, w_25, o_50, o_51, a_51, w_51, o_52, a_52, w_52, o_53, a_53, w_53, o_54, a_54, w_54, o_55, a_55, w_55, o_56, a_56, w_56, o_57, a_57, w_57, o_58, a_58, w_58, o_59, a_59, w_59, o_60, a_60, w_60, o_61, a_61, w_61, o_62, a_62, w_62, o_63, a_63, w_63, o_64, a_64, w_64, o_rp, o_rs, a_rs, w_rs, r_0_0, r_0_1, r_0_2, r_0_3, r_0_4, r_0_5, r_0_6, r_0_7, r_0_12, r_1_3, r_4_0, r_4_1, r_6_0, r_8_0, r_10_2, r_12_2, r_14_0, r_14_1, r_14_2, r_14_3, r_14_4, r_14_5, r_15_2, r_21_0, r_23_0, r_50_1, r_50_5, r_50_6, r_50_7, r_50_8, r_50_10, r_50_11, r_50_12, r_50_13, r_50_14, r_50_17, r_50_18, r_50_21, r_50_23, r_rp, r_rs, h_Fs, h_FF, h_FI, h_FL, h_Is, h_II, h_IF, h_IL, h_Ls, h_LL, h_LF, h_LI, nI_ltT, nI_ltF, nI_leT, nI_leF, nI_eqT, nI_eqF, ng_ltT, ng_ltF, ng_leT, ng_leF, ng_eqF, ng_eqG, n_ltT, n_leT, n_ltF, n_leF, n_eqF, n_eqG, ng_inj, zix_nI, zinR_nI, nI_add, ↓reduceIte, true_or, or_true, or_self, not_true, not_false, Nat.reduceAdd, l_s0g, l_s1g, l_t0g, List.tail_cons, List.tail_nil, g, e5]
  exact a1 _
theorem zchk_at {D : Nat} : ∀ {l : List Nat}, zchk D l = true → ∀ k, (k + 1 < l.length → ∃ f, znx D (zdx (l.getD k 0)) = some f ∧ ∀ j, j < 6 → f j = zdx (l.getD (k + 1) 0) j) ∧ (k + 1 = l.length → znx D (zdx (l.getD k 0)) = none)
  | [], h, k => by cases h
  | [a], h, k => by
    refine ⟨fun q => absurd q (by simp), fun q => ?_⟩
    have : k = 0 := by simp at q; omega
    subst this
    have h : (znx D (zdx a)).isNone = true := h
    exact Option.isNone_iff_eq_none.mp h
  | a :: b :: r, h, k => by
    unfold zchk at h
    rw [Bool.and_eq_true] at h
    cases k with
    | zero =>
      refine ⟨fun _ => ?_, fun q => absurd q (by simp)⟩
      have h1 := h.1
      show ∃ f, znx D (zdx a) = some f ∧ ∀ j, j < 6 → f j = zdx b j
      cases h2 : znx D (zdx a) with
      | none => rw [h2] at h1; cases h1
      | some f =>
        rw [h2] at h1
        exact ⟨f, rfl, fun j hj => beq_iff_eq.mp (zga_iff.mp h1 j hj)⟩
    | succ k =>
      have ih := zchk_at (l := b :: r) h.2 k
      refine ⟨fun q => ih.1 (by simp at q ⊢; omega), fun q => ih.2 (by simp at q ⊢; omega)⟩
