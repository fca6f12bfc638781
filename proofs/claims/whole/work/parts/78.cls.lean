/-! classes: both sides -/
theorem zupd_cls {LF : List Nat → List Nat} {ring : Bool} {m : Nat} {a a' : zAc} {s : zSta} (h : zupd LF ring m true a s = some a') (hs : zrow s.1) (ha : a.2.2.length ≤ 200 ∧ ∀ w ∈ a.2.2, w.length = m ∧ zrow w) : a'.2.2.length ≤ 200 ∧ ∀ w ∈ a'.2.2, w.length = m ∧ zrow w := by
  refine ⟨zupd_200 h ha.1, fun w hw => ?_⟩
  unfold zupd at h
  split at h
  · cases h; exact ha.2 w hw
  · split at h
    · next hl =>
      split at h
      · split at h
        · cases h
        · cases h
          rcases List.mem_append.mp hw with q | q
          · exact ha.2 w q
          · rw [List.mem_singleton.mp q]
            exact ⟨hl.2, hs⟩
      · cases h; exact ha.2 w hw
    · cases h; exact ha.2 w hw
theorem zrun_cls {D k m : Nat} {B : Int64} {ring : Bool} {LF : List Nat → List Nat} (hD : D ≤ 6) : ∀ (n : Nat) (s : zSta) (a : zAc) (t : Nat), zrow s.1 → (a.2.2.length ≤ 200 ∧ ∀ w ∈ a.2.2, w.length = m ∧ zrow w) → (zrun (znt (zhw D k B ring) D m) (zupd LF ring m true) n s a t).1.2.2.length ≤ 200 ∧ ∀ w ∈ (zrun (znt (zhw D k B ring) D m) (zupd LF ring m true) n s a t).1.2.2, w.length = m ∧ zrow w := by
  intro n
  induction n with
  | zero =>
    intro s a t hs ha
    cases h : znt (zhw D k B ring) D m s with
    | none => rw [zrun_end h]; exact ha
    | some s' => rw [zrun_0 h]; exact ha
  | succ n ih =>
    intro s a t hs ha
    cases h : znt (zhw D k B ring) D m s with
    | none => rw [zrun_end h]; exact ha
    | some s' =>
      have h2 := znt_row hD hs h
      cases h3 : zupd LF ring m true a s' with
      | none => rw [zrun_no h h3]; exact ha
      | some a' =>
        rw [zrun_s h h3]
        exact ih s' a' _ h2 (zupd_cls h3 h2 ha)
theorem zgres_ok {S : zU} (hS : zUok S) (ring : Bool) (m : Nat) : (zgres S ring m).1.2.2.length ≤ 200 ∧ ∀ w ∈ (zgres S ring m).1.2.2, w.length = m ∧ zrow w := by
  have h0 : zrow (([], 1) : zSta).1 := ⟨by decide, fun x hx => absurd hx List.not_mem_nil⟩
  have ha : (([], 0, []) : zAc).2.2.length ≤ 200 ∧ ∀ w ∈ (([], 0, []) : zAc).2.2, w.length = m ∧ zrow w := ⟨by decide, fun w hw => absurd hw List.not_mem_nil⟩
  unfold zgres
  cases h : zupd (zLF ring) ring m true ([], 0, []) ([], 1) with
  | none => rw [zrn_no h]; exact ha
  | some a' =>
    rw [zrn_yes h]
    exact zrun_cls hS.1.2.1 _ _ _ _ h0 (zupd_cls h h0 ha)
theorem zupd_cnt {LF : List Nat → List Nat} {ring two : Bool} {m : Nat} {a a' : zAc} {s : zSta} (h : zupd LF ring m two a s = some a') : a'.2.1 ≤ a.2.1 + 1 := by
  unfold zupd at h
  split at h
  · cases h; omega
  · split at h
    · split at h
      · split at h
        · cases h
        · cases h; exact Nat.le_refl _
      · cases h; exact Nat.le_refl _
    · cases h
      show a.2.1 + (if s.1.length = m then 1 else 0) ≤ a.2.1 + 1
      split <;> omega
theorem zrun_cnt2 {LF : List Nat → List Nat} {stp : zSta → Option zSta} {ring two : Bool} {m : Nat} : ∀ (n : Nat) (s : zSta) (a : zAc) (t : Nat), (zrun stp (zupd LF ring m two) n s a t).1.2.1 ≤ a.2.1 + n := by
  intro n
  induction n with
  | zero =>
    intro s a t
    cases h : stp s with
    | none => rw [zrun_end h]; exact Nat.le_refl _
    | some s' => rw [zrun_0 h]; exact Nat.le_refl _
  | succ n ih =>
    intro s a t
    cases h : stp s with
    | none => rw [zrun_end h]; exact Nat.le_add_right _ _
    | some s' =>
      cases h3 : zupd LF ring m two a s' with
      | none => rw [zrun_no h h3]; exact Nat.le_add_right _ _
      | some a' =>
        rw [zrun_s h h3]
        have h1 := ih s' a' (t + 1)
        have h2 := zupd_cnt h3
        omega
theorem zgres_cnt (S : zU) (ring : Bool) (m : Nat) : (zgres S ring m).1.2.1 ≤ 20001 := by
  unfold zgres
  cases h : zupd (zLF ring) ring m true ([], 0, []) ([], 1) with
  | none =>
    rw [zrn_no h]
    exact Nat.zero_le _
  | some a' =>
    rw [zrn_yes h]
    have h1 := zrun_cnt2 (LF := zLF ring) (stp := znt (zhw S.1.1 S.1.2.1 S.1.2.2 ring) S.1.1 m) (ring := ring) (two := true) (m := m) 20000 ([], 1) a' 0
    have h2 := zupd_cnt h
    have h3 : (([], 0, []) : zAc).2.1 = 0 := rfl
    omega
theorem zIM_cls {H : zHp} {S : zU} {t m : Nat} {cs : List (List Nat)} (hI : zIM H (zUn S t)) (hC : zCl H m cs) (hm : m ≤ 64) : zIM (zsF (zsA (zsF (zsF H 50 24 (.int (nI cs.length))) 50 25 (.int (nI m))) 64 0 (64 * cs.length) (fun j => H.2.1 63 j)) 50 16 (.long (lN cs.length))) (zUc S t m cs) := by
  obtain ⟨-, k1, -, k3, k4, k5, k6, -⟩ := id hI
  refine zIM_of (T := fun a => a = 50 ∨ a = 64) hI (zsm_F (zsm_A _ _ _ _ _ (zsm_F (zsm_F zsm_rf (Or.inl rfl)) (Or.inl rfl)) (Or.inr rfl)) (Or.inl rfl)) (zRf_sF (zRf_sA _ _ _ _ _ (zRf_sF (zRf_sF hI.1 (by decide)) (by decide))) (by decide)) (Or.inr ⟨⟨?_, ?_, ?_⟩, ?_, ⟨?_, h_Fs _ _ _ _⟩, ?_, ?_⟩) (fun p hp => Or.inl ⟨by omega, by omega, rfl⟩) (Or.inl ⟨by omega, rfl⟩) (Or.inr fun i s hi hs => ?_)
  · simp (disch := omega) only [h_FF, h_AF]; exact k1.1
  · simp (disch := omega) only [h_FF, h_AF]; exact k1.2.1
  · simp (disch := omega) only [h_FF, h_AF]; exact k1.2.2
  · simp (disch := omega) only [h_FF, h_AF]; exact k3.2
  · simp (disch := omega) only [h_FF, h_AF]; exact k4.1
  · simp (disch := omega) only [h_FF, h_Fs, h_AF]
    rfl
  · simp (disch := omega) only [h_FF, h_Fs, h_AF]
    rfl
  · have hi : i < cs.length := hi
    have hs : s < m := hs
    rw [h_FI, h_As _ _ _ _ _ _ (by omega), Nat.sub_zero]
    exact hC.2 i s hi hs
theorem m_classes_ok {X : zX} {H : zHp} {S : zU} {m : Nat} {ring : Bool} {Q : Option Value → zHp → Prop} (hI : zIM H S) (hS : zUok S) (hm : m ≤ 64) (hB : S.1.2.2 = lN 0)
    (hQ0 : (zgres S ring m).2.2 = false → ∀ H2, zfM H H2 → zIM H2 (zUn S (zgres S ring m).2.1) → Q (some (.int (-nI 6))) H2)
    (hQ1 : (zgres S ring m).2.2 = true → ∀ H2, zfM H H2 → zIM H2 (zUc S (zgres S ring m).2.1 m (zgres S ring m).1.2.2) → Q (some (.int (nI 1))) H2) :
    zCall X 164 65 [.ref 50, .int (zb1 ring), .int (nI m)] H Q := by
  have hR := hI.1
  have g : H.1 50 4 = .long S.1.2.2 := hI.2.1.2.2
  have hB0 : zbit S.1.2.2 0 = false := by rw [hB]; exact zbit_0 0
  have h200 := (zgres_ok hS ring m).1
  have hcnt := zgres_cnt S ring m
  have s1 : zscM H (zsF H 50 22 (.int (nI 0))) := zscM_F zscM_rf (by decide)
  have i1 := zscM_IM hI s1
  refine zgo_call 20 (by decide) (by decide +kernel) True.intro ?_
  simp (disch := first | assumption | omega) only [l_g0, l_gs, l_s0, l_s1, l_ss, l_sn0, l_sns, l_ki, l_kr, l_kl, l_ka, l_en, l_ei, l_er, t_I, t_R, t_W0, t_Wi, t_Wr, t_v0, t_v2, t_v3, i_p1, i_m1, t_k0, t_k1, k_some, k_none, true_and, and_true, ite_true, ite_false, Fin.isValue, l_t0, l_t1, l_ts, l_tn0, l_tns, l_el, t_L, t_Wl, t_v1, t_l0, t_l1, List.tail_cons, List.tail_nil, e_aload_n_0, e_bipush, e_getfield, e_goto0N, e_goto1N, e_i2l, e_iaload0, e_iastore, e_icmp_ge0N, e_icmp_gt0N, e_icmp_lt0N, e_iconst, e_if_eq0N, e_if_ge0N, e_if_ne0N, e_iinc, e_iload, e_iload_n_0, e_iload_n_1, e_iload_n_2, e_imul, e_invs3_1, e_invv5_0, e_ireturn, e_istore, e_lcmp, e_lconst, e_lload_n_3, e_lstore_n_3, e_nop0N, e_nop1N, e_putfield, e_sipush, b115_0, b115_1, b115_2, b164_0, b164_1, b164_2, b164_3, b164_4, b164_5, ci161, ml115, q115_0, q115_1, q115_2, q164_0, q164_1, q164_2, q164_3, q164_4, q164_5, zE164, zE115, o_0, o_1, o_2, a_2, w_2, o_3, a_3, w_3, o_4, o_5, a_5, w_5, o_6, o_7, a_7, w_7, o_8, o_9, a_9, w_9, o_10, o_11, a_11, w_11, o_12, o_13, a_13, w_13, o_14, o_15, o_16, a_16, w_16, o_17, a_17, w_17, o_18, a_18, w_18, o_19, a_19, w_19, o_20, a_20, w_20, o_21, o_22, a_22, w_22, o_23, o_24, a_24, w_24, o_25, a_25, w_25, o_50, o_51, a_51, w_51, o_52, a_52, w_52, o_53, a_53, w_53, o_54, a_54, w_54, o_55, a_55, w_55, o_56, a_56, w_56, o_57, a_57, w_57, o_58, a_58, w_58, o_59, a_59, w_59, o_60, a_60, w_60, o_61, a_61, w_61, o_62, a_62, w_62, o_63, a_63, w_63, o_64, a_64, w_64, o_rp, o_rs, a_rs, w_rs, r_0_0, r_0_1, r_0_2, r_0_3, r_0_4, r_0_5, r_0_6, r_0_7, r_0_12, r_1_3, r_4_0, r_4_1, r_6_0, r_8_0, r_10_2, r_12_2, r_14_0, r_14_1, r_14_2, r_14_3, r_14_4, r_14_5, r_15_2, r_21_0, r_23_0, r_50_1, r_50_5, r_50_6, r_50_7, r_50_8, r_50_10, r_50_11, r_50_12, r_50_13, r_50_14, r_50_17, r_50_18, r_50_21, r_50_23, r_rp, r_rs, h_Fs, h_FF, h_FI, h_FL, h_Is, h_II, h_IF, h_IL, h_Ls, h_LL, h_LF, h_LI, nI_ltT, nI_ltF, nI_leT, nI_leF, nI_eqT, nI_eqF, ng_ltT, ng_ltF, ng_leT, ng_leF, ng_eqF, ng_eqG, n_ltT, n_leT, n_ltF, n_leF, n_eqF, n_eqG, ng_inj, zix_nI, zinR_nI, nI_add, ↓reduceIte, true_or, or_true, or_self, not_true, not_false, Nat.reduceAdd, l_s0g, l_s1g, l_t0g, List.tail_cons, List.tail_nil, g, hB, zcmp_eq]
  refine m_seek (two := true) (J := zJ S.1.1 S.1.2.1 m ring) i1 hS (by omega) (Nat.le_refl _) (by decide) (by decide) hB0 (fun _ => ?_) (fun _ => h_Fs _ _ _ _) (fun _ a' h => zJ_0 hS.1.2.2.1 h) (fun res e H2 k1 k2 _ k4 => ?_)
  · rw [hB]
    exact zJ_ok hS.1.2.1 hS.1.2.2.1
  have e : res = zgres S ring m := e
  subst e
  have hR2 := k2.1
  have kf := zsm_tr (zscM_fM s1) k1
  cases hz : (zgres S ring m).2.2
  · have hQ := hQ0 hz H2 kf k2
    have e6 : lg_cmp (-lN 6) (lN 0) = -nI 1 := by decide
    rw [if_neg Bool.false_ne_true]
    simp (disch := first | assumption | omega) only [l_g0, l_gs, l_s0, l_s1, l_ss, l_sn0, l_sns, l_ki, l_kr, l_kl, l_ka, l_en, l_ei, l_er, t_I, t_R, t_W0, t_Wi, t_Wr, t_v0, t_v2, t_v3, i_p1, i_m1, t_k0, t_k1, k_some, k_none, true_and, and_true, ite_true, ite_false, Fin.isValue, l_t0, l_t1, l_ts, l_tn0, l_tns, l_el, t_L, t_Wl, t_v1, t_l0, t_l1, List.tail_cons, List.tail_nil, e_aload_n_0, e_bipush, e_getfield, e_goto0N, e_goto1N, e_i2l, e_iaload0, e_iastore, e_icmp_ge0N, e_icmp_gt0N, e_icmp_lt0N, e_iconst, e_if_eq0N, e_if_ge0N, e_if_ne0N, e_iinc, e_iload, e_iload_n_0, e_iload_n_1, e_iload_n_2, e_imul, e_invs3_1, e_invv5_0, e_ireturn, e_istore, e_lcmp, e_lconst, e_lload_n_3, e_lstore_n_3, e_nop0N, e_nop1N, e_putfield, e_sipush, b115_0, b115_1, b115_2, b164_0, b164_1, b164_2, b164_3, b164_4, b164_5, ci161, ml115, q115_0, q115_1, q115_2, q164_0, q164_1, q164_2, q164_3, q164_4, q164_5, zE164, zE115, o_0, o_1, o_2, a_2, w_2, o_3, a_3, w_3, o_4, o_5, a_5, w_5, o_6, o_7, a_7, w_7, o_8, o_9, a_9, w_9, o_10, o_11, a_11, w_11, o_12, o_13, a_13, w_13, o_14, o_15, o_16, a_16, w_16, o_17, a_17, w_17, o_18, a_18, w_18, o_19, a_19, w_19, o_20, a_20, w_20, o_21, o_22, a_22, w_22, o_23, o_24, a_24, w_24, o_25, a_25, w_25, o_50, o_51, a_51, w_51, o_52, a_52, w_52, o_53, a_53, w_53, o_54, a_54, w_54, o_55, a_55, w_55, o_56, a_56, w_56, o_57, a_57, w_57, o_58, a_58, w_58, o_59, a_59, w_59, o_60, a_60, w_60, o_61, a_61, w_61, o_62, a_62, w_62, o_63, a_63, w_63, o_64, a_64, w_64, o_rp, o_rs, a_rs, w_rs, r_0_0, r_0_1, r_0_2, r_0_3, r_0_4, r_0_5, r_0_6, r_0_7, r_0_12, r_1_3, r_4_0, r_4_1, r_6_0, r_8_0, r_10_2, r_12_2, r_14_0, r_14_1, r_14_2, r_14_3, r_14_4, r_14_5, r_15_2, r_21_0, r_23_0, r_50_1, r_50_5, r_50_6, r_50_7, r_50_8, r_50_10, r_50_11, r_50_12, r_50_13, r_50_14, r_50_17, r_50_18, r_50_21, r_50_23, r_rp, r_rs, h_Fs, h_FF, h_FI, h_FL, h_Is, h_II, h_IF, h_IL, h_Ls, h_LL, h_LF, h_LI, nI_ltT, nI_ltF, nI_leT, nI_leF, nI_eqT, nI_eqF, ng_ltT, ng_ltF, ng_leT, ng_leF, ng_eqF, ng_eqG, n_ltT, n_leT, n_ltF, n_leF, n_eqF, n_eqG, ng_inj, zix_nI, zinR_nI, nI_add, ↓reduceIte, true_or, or_true, or_self, not_true, not_false, Nat.reduceAdd, l_s0g, l_s1g, l_t0g, List.tail_cons, List.tail_nil, e6]
    exact hQ
  · have hC := k4 rfl hz
    have hQ := hQ1 hz
    have q22 := hC.1
    have e6 : (lg_cmp (lN (zgres S ring m).1.2.1) (lN 0) < nI 0) = False := by
      rw [zcmp_lt, lN_lt (by omega) (by decide)]
      simp
    rw [if_pos rfl]
    simp (disch := first | assumption | omega) only [l_g0, l_gs, l_s0, l_s1, l_ss, l_sn0, l_sns, l_ki, l_kr, l_kl, l_ka, l_en, l_ei, l_er, t_I, t_R, t_W0, t_Wi, t_Wr, t_v0, t_v2, t_v3, i_p1, i_m1, t_k0, t_k1, k_some, k_none, true_and, and_true, ite_true, ite_false, Fin.isValue, l_t0, l_t1, l_ts, l_tn0, l_tns, l_el, t_L, t_Wl, t_v1, t_l0, t_l1, List.tail_cons, List.tail_nil, e_aload_n_0, e_bipush, e_getfield, e_goto0N, e_goto1N, e_i2l, e_iaload0, e_iastore, e_icmp_ge0N, e_icmp_gt0N, e_icmp_lt0N, e_iconst, e_if_eq0N, e_if_ge0N, e_if_ne0N, e_iinc, e_iload, e_iload_n_0, e_iload_n_1, e_iload_n_2, e_imul, e_invs3_1, e_invv5_0, e_ireturn, e_istore, e_lcmp, e_lconst, e_lload_n_3, e_lstore_n_3, e_nop0N, e_nop1N, e_putfield, e_sipush, b115_0, b115_1, b115_2, b164_0, b164_1, b164_2, b164_3, b164_4, b164_5, ci161, ml115, q115_0, q115_1, q115_2, q164_0, q164_1, q164_2, q164_3, q164_4, q164_5, zE164, zE115, o_0, o_1, o_2, a_2, w_2, o_3, a_3, w_3, o_4, o_5, a_5, w_5, o_6, o_7, a_7, w_7, o_8, o_9, a_9, w_9, o_10, o_11, a_11, w_11, o_12, o_13, a_13, w_13, o_14, o_15, o_16, a_16, w_16, o_17, a_17, w_17, o_18, a_18, w_18, o_19, a_19, w_19, o_20, a_20, w_20, o_21, o_22, a_22, w_22, o_23, o_24, a_24, w_24, o_25, a_25, w_25, o_50, o_51, a_51, w_51, o_52, a_52, w_52, o_53, a_53, w_53, o_54, a_54, w_54, o_55, a_55, w_55, o_56, a_56, w_56, o_57, a_57, w_57, o_58, a_58, w_58, o_59, a_59, w_59, o_60, a_60, w_60, o_61, a_61, w_61, o_62, a_62, w_62, o_63, a_63, w_63, o_64, a_64, w_64, o_rp, o_rs, a_rs, w_rs, r_0_0, r_0_1, r_0_2, r_0_3, r_0_4, r_0_5, r_0_6, r_0_7, r_0_12, r_1_3, r_4_0, r_4_1, r_6_0, r_8_0, r_10_2, r_12_2, r_14_0, r_14_1, r_14_2, r_14_3, r_14_4, r_14_5, r_15_2, r_21_0, r_23_0, r_50_1, r_50_5, r_50_6, r_50_7, r_50_8, r_50_10, r_50_11, r_50_12, r_50_13, r_50_14, r_50_17, r_50_18, r_50_21, r_50_23, r_rp, r_rs, h_Fs, h_FF, h_FI, h_FL, h_Is, h_II, h_IF, h_IL, h_Ls, h_LL, h_LF, h_LI, nI_ltT, nI_ltF, nI_leT, nI_leF, nI_eqT, nI_eqF, ng_ltT, ng_ltF, ng_leT, ng_leF, ng_eqF, ng_eqG, n_ltT, n_leT, n_ltF, n_leF, n_eqF, n_eqG, ng_inj, zix_nI, zinR_nI, nI_add, ↓reduceIte, true_or, or_true, or_self, not_true, not_false, Nat.reduceAdd, l_s0g, l_s1g, l_t0g, List.tail_cons, List.tail_nil, e6, q22]
    generalize (zgres S ring m).1.2.2 = cs at hC hQ q22 h200 ⊢
    have hR3 : zRf (zsF (zsF H2 50 24 (.int (nI cs.length))) 50 25 (.int (nI m))) := zRf_sF (zRf_sF hR2 (by decide)) (by decide)
    refine zfor (R := fun j H' => H' = zsA (zsF (zsF H2 50 24 (.int (nI cs.length))) 50 25 (.int (nI m))) 64 0 j (fun j => H2.2.1 63 j)) (fun j H' => zAt X 164 65 65 4 [.ref 50, .int (zb1 ring), .int (nI m), .long (lN (zgres S ring m).1.2.1), .retAddr 0, .int (nI j)] [] H' Q) (64 * cs.length) ?_ ?_ 0 _ (Nat.zero_le _) (h_A0 _ _ _ _).symm
    · rintro H' rfl
      have hQ := hQ _ (zsm_F (zsm_A _ _ _ _ _ (zsm_F (zsm_F kf (by omega)) (by omega)) (by omega)) (by omega)) (zIM_cls k2 hC hm)
      refine zgo_at 20 ?_
      simp (disch := first | assumption | omega) only [l_g0, l_gs, l_s0, l_s1, l_ss, l_sn0, l_sns, l_ki, l_kr, l_kl, l_ka, l_en, l_ei, l_er, t_I, t_R, t_W0, t_Wi, t_Wr, t_v0, t_v2, t_v3, i_p1, i_m1, t_k0, t_k1, k_some, k_none, true_and, and_true, ite_true, ite_false, Fin.isValue, l_t0, l_t1, l_ts, l_tn0, l_tns, l_el, t_L, t_Wl, t_v1, t_l0, t_l1, List.tail_cons, List.tail_nil, e_aload_n_0, e_bipush, e_getfield, e_goto0N, e_goto1N, e_i2l, e_iaload0, e_iastore, e_icmp_ge0N, e_icmp_gt0N, e_icmp_lt0N, e_iconst, e_if_eq0N, e_if_ge0N, e_if_ne0N, e_iinc, e_iload, e_iload_n_0, e_iload_n_1, e_iload_n_2, e_imul, e_invs3_1, e_invv5_0, e_ireturn, e_istore, e_lcmp, e_lconst, e_lload_n_3, e_lstore_n_3, e_nop0N, e_nop1N, e_putfield, e_sipush, b115_0, b115_1, b115_2, b164_0, b164_1, b164_2, b164_3, b164_4, b164_5, ci161, ml115, q115_0, q115_1, q115_2, q164_0, q164_1, q164_2, q164_3, q164_4, q164_5, zE164, zE115, o_0, o_1, o_2, a_2, w_2, o_3, a_3, w_3, o_4, o_5, a_5, w_5, o_6, o_7, a_7, w_7, o_8, o_9, a_9, w_9, o_10, o_11, a_11, w_11, o_12, o_13, a_13, w_13, o_14, o_15, o_16, a_16, w_16, o_17, a_17, w_17, o_18, a_18, w_18, o_19, a_19, w_19, o_20, a_20, w_20, o_21, o_22, a_22, w_22, o_23, o_24, a_24, w_24, o_25, a_25, w_25, o_50, o_51, a_51, w_51, o_52, a_52, w_52, o_53, a_53, w_53, o_54, a_54, w_54, o_55, a_55, w_55, o_56, a_56, w_56, o_57, a_57, w_57, o_58, a_58, w_58, o_59, a_59, w_59, o_60, a_60, w_60, o_61, a_61, w_61, o_62, a_62, w_62, o_63, a_63, w_63, o_64, a_64, w_64, o_rp, o_rs, a_rs, w_rs, r_0_0, r_0_1, r_0_2, r_0_3, r_0_4, r_0_5, r_0_6, r_0_7, r_0_12, r_1_3, r_4_0, r_4_1, r_6_0, r_8_0, r_10_2, r_12_2, r_14_0, r_14_1, r_14_2, r_14_3, r_14_4, r_14_5, r_15_2, r_21_0, r_23_0, r_50_1, r_50_5, r_50_6, r_50_7, r_50_8, r_50_10, r_50_11, r_50_12, r_50_13, r_50_14, r_50_17, r_50_18, r_50_21, r_50_23, r_rp, r_rs, h_Fs, h_FF, h_FI, h_FL, h_Is, h_II, h_IF, h_IL, h_Ls, h_LL, h_LF, h_LI, nI_ltT, nI_ltF, nI_leT, nI_leF, nI_eqT, nI_eqF, ng_ltT, ng_ltF, ng_leT, ng_leF, ng_eqF, ng_eqG, n_ltT, n_leT, n_ltF, n_leF, n_eqF, n_eqG, ng_inj, zix_nI, zinR_nI, nI_add, ↓reduceIte, true_or, or_true, or_self, not_true, not_false, Nat.reduceAdd, l_s0g, l_s1g, l_t0g, List.tail_cons, List.tail_nil, h_AF, q22, nI_mul, z_i2l]
      exact hQ
    · rintro j H' hj rfl ih
      have ih := ih _ rfl
      rw [← h_A1 (zsF (zsF H2 50 24 (.int (nI cs.length))) 50 25 (.int (nI m))) 64 0 j (fun j => H2.2.1 63 j) (H2.2.1 63 j) rfl, Nat.zero_add] at ih
      have k6 : (zsA (zsF (zsF H2 50 24 (.int (nI cs.length))) 50 25 (.int (nI m))) 64 0 j (fun j => H2.2.1 63 j)).2.1 63 j = H2.2.1 63 j := by
        rw [h_AI _ _ _ _ _ _ _ (by decide)]
        rfl
      refine zgo_at 20 ?_
      simp (disch := first | assumption | omega) only [l_g0, l_gs, l_s0, l_s1, l_ss, l_sn0, l_sns, l_ki, l_kr, l_kl, l_ka, l_en, l_ei, l_er, t_I, t_R, t_W0, t_Wi, t_Wr, t_v0, t_v2, t_v3, i_p1, i_m1, t_k0, t_k1, k_some, k_none, true_and, and_true, ite_true, ite_false, Fin.isValue, l_t0, l_t1, l_ts, l_tn0, l_tns, l_el, t_L, t_Wl, t_v1, t_l0, t_l1, List.tail_cons, List.tail_nil, e_aload_n_0, e_bipush, e_getfield, e_goto0N, e_goto1N, e_i2l, e_iaload0, e_iastore, e_icmp_ge0N, e_icmp_gt0N, e_icmp_lt0N, e_iconst, e_if_eq0N, e_if_ge0N, e_if_ne0N, e_iinc, e_iload, e_iload_n_0, e_iload_n_1, e_iload_n_2, e_imul, e_invs3_1, e_invv5_0, e_ireturn, e_istore, e_lcmp, e_lconst, e_lload_n_3, e_lstore_n_3, e_nop0N, e_nop1N, e_putfield, e_sipush, b115_0, b115_1, b115_2, b164_0, b164_1, b164_2, b164_3, b164_4, b164_5, ci161, ml115, q115_0, q115_1, q115_2, q164_0, q164_1, q164_2, q164_3, q164_4, q164_5, zE164, zE115, o_0, o_1, o_2, a_2, w_2, o_3, a_3, w_3, o_4, o_5, a_5, w_5, o_6, o_7, a_7, w_7, o_8, o_9, a_9, w_9, o_10, o_11, a_11, w_11, o_12, o_13, a_13, w_13, o_14, o_15, o_16, a_16, w_16, o_17, a_17, w_17, o_18, a_18, w_18, o_19, a_19, w_19, o_20, a_20, w_20, o_21, o_22, a_22, w_22, o_23, o_24, a_24, w_24, o_25, a_25, w_25, o_50, o_51, a_51, w_51, o_52, a_52, w_52, o_53, a_53, w_53, o_54, a_54, w_54, o_55, a_55, w_55, o_56, a_56, w_56, o_57, a_57, w_57, o_58, a_58, w_58, o_59, a_59, w_59, o_60, a_60, w_60, o_61, a_61, w_61, o_62, a_62, w_62, o_63, a_63, w_63, o_64, a_64, w_64, o_rp, o_rs, a_rs, w_rs, r_0_0, r_0_1, r_0_2, r_0_3, r_0_4, r_0_5, r_0_6, r_0_7, r_0_12, r_1_3, r_4_0, r_4_1, r_6_0, r_8_0, r_10_2, r_12_2, r_14_0, r_14_1, r_14_2, r_14_3, r_14_4, r_14_5, r_15_2, r_21_0, r_23_0, r_50_1, r_50_5, r_50_6, r_50_7, r_50_8, r_50_10, r_50_11, r_50_12, r_50_13, r_50_14, r_50_17, r_50_18, r_50_21, r_50_23, r_rp, r_rs, h_Fs, h_FF, h_FI, h_FL, h_Is, h_II, h_IF, h_IL, h_Ls, h_LL, h_LF, h_LI, nI_ltT, nI_ltF, nI_leT, nI_leF, nI_eqT, nI_eqF, ng_ltT, ng_ltF, ng_leT, ng_leF, ng_eqF, ng_eqG, n_ltT, n_leT, n_ltF, n_leF, n_eqF, n_eqG, ng_inj, zix_nI, zinR_nI, nI_add, ↓reduceIte, true_or, or_true, or_self, not_true, not_false, Nat.reduceAdd, l_s0g, l_s1g, l_t0g, List.tail_cons, List.tail_nil, h_AF, q22, nI_mul, k6]
      exact ih
theorem both_classes1 (S : zU) (hS : zUok S) {m : Nat} (hm : m ≤ 64) (ring : Bool) : zB2 96 164 [.int (zb1 ring), .int (nI m)] S := by
  by_cases hB : S.1.2.2 = lN 0
  · obtain ⟨h200, hrow⟩ := zgres_ok hS ring m
    cases hz : (zgres S ring m).2.2
    · refine ⟨.int (-nI 6), zUn S (zgres S ring m).2.1, hS, fun X H Q hI hQ => ?_, fun X H Q hI hQ => ?_, rfl⟩
      · exact x_classes_ok hI hS hm hB h200 (fun _ H2 h1 h2 => hQ H2 h1 h2) (fun h => by rw [hz] at h; cases h)
      · exact m_classes_ok hI hS hm hB (fun _ H2 h1 h2 => hQ H2 h1 h2) (fun h => by rw [hz] at h; cases h)
    · refine ⟨.int (nI 1), zUc S (zgres S ring m).2.1 m (zgres S ring m).1.2.2, ⟨hS.1, hS.2.1, hm, h200, hrow⟩, fun X H Q hI hQ => ?_, fun X H Q hI hQ => ?_, rfl⟩
      · exact x_classes_ok hI hS hm hB h200 (fun h => by rw [hz] at h; cases h) (fun _ H2 h1 h2 => hQ H2 h1 h2)
      · exact m_classes_ok hI hS hm hB (fun h => by rw [hz] at h; cases h) (fun _ H2 h1 h2 => hQ H2 h1 h2)
  · have hB := eq_false hB
    refine zB2_of hS (.int (-nI 4)) (fun X H Q hI hR hQ => ?_) (fun X H Q hI hR hQ => ?_)
    · have g := hI.2.1
      refine zgo_call 20 (by decide) (by decide +kernel) True.intro ?_
      simp (disch := first | assumption | omega) only [l_g0, l_gs, l_s0, l_s1, l_ss, l_sn0, l_sns, l_ki, l_kr, l_kl, l_ka, l_en, l_ei, l_er, t_I, t_R, t_W0, t_Wi, t_Wr, t_v0, t_v2, t_v3, i_p1, i_m1, t_k0, t_k1, k_some, k_none, true_and, and_true, ite_true, ite_false, Fin.isValue, l_t0, l_t1, l_ts, l_tn0, l_tns, l_el, t_L, t_Wl, t_v1, t_l0, t_l1, List.tail_cons, List.tail_nil, e_aload_n_0, e_aload_n_3, e_astore_n_3, e_bipush, e_getfield, e_goto0N, e_i2l, e_icmp_le0N, e_iconst, e_if_lt0N, e_if_ne0N, e_iload_n_1, e_iload_n_2, e_invv1_1, e_invv3_0, e_ireturn, e_lcmp, e_lconst, e_nop0N, e_putfield, b13_0, b13_1, b13_2, b21_0, b96_0, b96_1, b96_2, b96_3, b96_4, ci112, ci13, ci21, ml13, ml21, q13_0, q13_1, q13_2, q21_0, q96_0, q96_1, q96_2, q96_3, q96_4, zE96, zE13, zE21, o_0, o_1, o_2, a_2, w_2, o_3, a_3, w_3, o_4, o_5, a_5, w_5, o_6, o_7, a_7, w_7, o_8, o_9, a_9, w_9, o_10, o_11, a_11, w_11, o_12, o_13, a_13, w_13, o_14, o_15, o_16, a_16, w_16, o_17, a_17, w_17, o_18, a_18, w_18, o_19, a_19, w_19, o_20, a_20, w_20, o_21, o_22, a_22, w_22, o_23, o_24, a_24, w_24, o_25, a_25, w_25, o_50, o_51, a_51, w_51, o_52, a_52, w_52, o_53, a_53, w_53, o_54, a_54, w_54, o_55, a_55, w_55, o_56, a_56, w_56, o_57, a_57, w_57, o_58, a_58, w_58, o_59, a_59, w_59, o_60, a_60, w_60, o_61, a_61, w_61, o_62, a_62, w_62, o_63, a_63, w_63, o_64, a_64, w_64, o_rp, o_rs, a_rs, w_rs, r_0_0, r_0_1, r_0_2, r_0_3, r_0_4, r_0_5, r_0_6, r_0_7, r_0_12, r_1_3, r_4_0, r_4_1, r_6_0, r_8_0, r_10_2, r_12_2, r_14_0, r_14_1, r_14_2, r_14_3, r_14_4, r_14_5, r_15_2, r_21_0, r_23_0, r_50_1, r_50_5, r_50_6, r_50_7, r_50_8, r_50_10, r_50_11, r_50_12, r_50_13, r_50_14, r_50_17, r_50_18, r_50_21, r_50_23, r_rp, r_rs, h_Fs, h_FF, h_FI, h_FL, h_Is, h_II, h_IF, h_IL, h_Ls, h_LL, h_LF, h_LI, nI_ltT, nI_ltF, nI_leT, nI_leF, nI_eqT, nI_eqF, ng_ltT, ng_ltF, ng_leT, ng_leF, ng_eqF, ng_eqG, n_ltT, n_leT, n_ltF, n_leF, n_eqF, n_eqG, ng_inj, zix_nI, zinR_nI, nI_add, ↓reduceIte, true_or, or_true, or_self, not_true, not_false, Nat.reduceAdd, l_s0g, l_s1g, l_t0g, List.tail_cons, List.tail_nil, g, hB, zcmp_eq]
      exact hQ _ zsm_rf hI
    · have g := hI.2.1
      refine zgo_call 20 (by decide) (by decide +kernel) True.intro ?_
      simp (disch := first | assumption | omega) only [l_g0, l_gs, l_s0, l_s1, l_ss, l_sn0, l_sns, l_ki, l_kr, l_kl, l_ka, l_en, l_ei, l_er, t_I, t_R, t_W0, t_Wi, t_Wr, t_v0, t_v2, t_v3, i_p1, i_m1, t_k0, t_k1, k_some, k_none, true_and, and_true, ite_true, ite_false, Fin.isValue, l_t0, l_t1, l_ts, l_tn0, l_tns, l_el, t_L, t_Wl, t_v1, t_l0, t_l1, List.tail_cons, List.tail_nil, e_aload_n_0, e_bipush, e_getfield, e_goto0N, e_goto1N, e_i2l, e_iaload0, e_iastore, e_icmp_ge0N, e_icmp_gt0N, e_icmp_lt0N, e_iconst, e_if_eq0N, e_if_ge0N, e_if_ne0N, e_iinc, e_iload, e_iload_n_0, e_iload_n_1, e_iload_n_2, e_imul, e_invs3_1, e_invv5_0, e_ireturn, e_istore, e_lcmp, e_lconst, e_lload_n_3, e_lstore_n_3, e_nop0N, e_nop1N, e_putfield, e_sipush, b115_0, b115_1, b115_2, b164_0, b164_1, b164_2, b164_3, b164_4, b164_5, ci161, ml115, q115_0, q115_1, q115_2, q164_0, q164_1, q164_2, q164_3, q164_4, q164_5, zE164, zE115, o_0, o_1, o_2, a_2, w_2, o_3, a_3, w_3, o_4, o_5, a_5, w_5, o_6, o_7, a_7, w_7, o_8, o_9, a_9, w_9, o_10, o_11, a_11, w_11, o_12, o_13, a_13, w_13, o_14, o_15, o_16, a_16, w_16, o_17, a_17, w_17, o_18, a_18, w_18, o_19, a_19, w_19, o_20, a_20, w_20, o_21, o_22, a_22, w_22, o_23, o_24, a_24, w_24, o_25, a_25, w_25, o_50, o_51, a_51, w_51, o_52, a_52, w_52, o_53, a_53, w_53, o_54, a_54, w_54, o_55, a_55, w_55, o_56, a_56, w_56, o_57, a_57, w_57, o_58, a_58, w_58, o_59, a_59, w_59, o_60, a_60, w_60, o_61, a_61, w_61, o_62, a_62, w_62, o_63, a_63, w_63, o_64, a_64, w_64, o_rp, o_rs, a_rs, w_rs, r_0_0, r_0_1, r_0_2, r_0_3, r_0_4, r_0_5, r_0_6, r_0_7, r_0_12, r_1_3, r_4_0, r_4_1, r_6_0, r_8_0, r_10_2, r_12_2, r_14_0, r_14_1, r_14_2, r_14_3, r_14_4, r_14_5, r_15_2, r_21_0, r_23_0, r_50_1, r_50_5, r_50_6, r_50_7, r_50_8, r_50_10, r_50_11, r_50_12, r_50_13, r_50_14, r_50_17, r_50_18, r_50_21, r_50_23, r_rp, r_rs, h_Fs, h_FF, h_FI, h_FL, h_Is, h_II, h_IF, h_IL, h_Ls, h_LL, h_LF, h_LI, nI_ltT, nI_ltF, nI_leT, nI_leF, nI_eqT, nI_eqF, ng_ltT, ng_ltF, ng_leT, ng_leF, ng_eqF, ng_eqG, n_ltT, n_leT, n_ltF, n_leF, n_eqF, n_eqG, ng_inj, zix_nI, zinR_nI, nI_add, ↓reduceIte, true_or, or_true, or_self, not_true, not_false, Nat.reduceAdd, l_s0g, l_s1g, l_t0g, List.tail_cons, List.tail_nil, g, hB, zcmp_eq]
      exact hQ _ zsm_rf hI
theorem both_classes (S : zU) (hS : zUok S) (n : Int32) (ring : Bool) : zB2 96 164 [.int (zb1 ring), .int n] S := by
  rcases z_ix n 65 (by decide) with ⟨n, hn, rfl⟩ | hb
  · exact both_classes1 S hS (by omega) ring
  · rcases hb with hb | hb
    ·
      refine zB2_of hS (.int (-nI 1)) (fun X H Q hI hR hQ => ?_) (fun X H Q hI hR hQ => ?_)
      · refine zgo_call 20 (by decide) (by decide +kernel) True.intro ?_
        simp (disch := first | assumption | omega) only [l_g0, l_gs, l_s0, l_s1, l_ss, l_sn0, l_sns, l_ki, l_kr, l_kl, l_ka, l_en, l_ei, l_er, t_I, t_R, t_W0, t_Wi, t_Wr, t_v0, t_v2, t_v3, i_p1, i_m1, t_k0, t_k1, k_some, k_none, true_and, and_true, ite_true, ite_false, Fin.isValue, l_t0, l_t1, l_ts, l_tn0, l_tns, l_el, t_L, t_Wl, t_v1, t_l0, t_l1, List.tail_cons, List.tail_nil, e_aload_n_0, e_aload_n_3, e_astore_n_3, e_bipush, e_getfield, e_goto0, e_i2l, e_icmp_le0, e_iconst, e_if_lt0, e_if_ne0, e_iload_n_1, e_iload_n_2, e_invv1_1, e_invv3_0, e_ireturn, e_lcmp, e_lconst, e_nop0, e_putfield, b13_0, b13_1, b13_2, b21_0, b96_0, b96_1, b96_2, b96_3, b96_4, ci112, ci13, ci21, ml13, ml21, q13_0, q13_1, q13_2, q21_0, q96_0, q96_1, q96_2, q96_3, q96_4, zE96, zE13, zE21, o_0, o_1, o_2, a_2, w_2, o_3, a_3, w_3, o_4, o_5, a_5, w_5, o_6, o_7, a_7, w_7, o_8, o_9, a_9, w_9, o_10, o_11, a_11, w_11, o_12, o_13, a_13, w_13, o_14, o_15, o_16, a_16, w_16, o_17, a_17, w_17, o_18, a_18, w_18, o_19, a_19, w_19, o_20, a_20, w_20, o_21, o_22, a_22, w_22, o_23, o_24, a_24, w_24, o_25, a_25, w_25, o_50, o_51, a_51, w_51, o_52, a_52, w_52, o_53, a_53, w_53, o_54, a_54, w_54, o_55, a_55, w_55, o_56, a_56, w_56, o_57, a_57, w_57, o_58, a_58, w_58, o_59, a_59, w_59, o_60, a_60, w_60, o_61, a_61, w_61, o_62, a_62, w_62, o_63, a_63, w_63, o_64, a_64, w_64, o_rp, o_rs, a_rs, w_rs, r_0_0, r_0_1, r_0_2, r_0_3, r_0_4, r_0_5, r_0_6, r_0_7, r_0_12, r_1_3, r_4_0, r_4_1, r_6_0, r_8_0, r_10_2, r_12_2, r_14_0, r_14_1, r_14_2, r_14_3, r_14_4, r_14_5, r_15_2, r_21_0, r_23_0, r_50_1, r_50_5, r_50_6, r_50_7, r_50_8, r_50_10, r_50_11, r_50_12, r_50_13, r_50_14, r_50_17, r_50_18, r_50_21, r_50_23, r_rp, r_rs, h_Fs, h_FF, h_FI, h_FL, h_Is, h_II, h_IF, h_IL, h_Ls, h_LL, h_LF, h_LI, nI_ltT, nI_ltF, nI_leT, nI_leF, nI_eqT, nI_eqF, ng_ltT, ng_ltF, ng_leT, ng_leF, ng_eqF, ng_eqG, n_ltT, n_leT, n_ltF, n_leF, n_eqF, n_eqG, ng_inj, zix_nI, zinR_nI, nI_add, ↓reduceIte, true_or, or_true, or_self, not_true, not_false, Nat.reduceAdd, l_s0g, l_s1g, l_t0g, List.tail_cons, List.tail_nil]
        exact hQ _ zsm_rf hI
      · refine zgo_call 20 (by decide) (by decide +kernel) True.intro ?_
        simp (disch := first | assumption | omega) only [l_g0, l_gs, l_s0, l_s1, l_ss, l_sn0, l_sns, l_ki, l_kr, l_kl, l_ka, l_en, l_ei, l_er, t_I, t_R, t_W0, t_Wi, t_Wr, t_v0, t_v2, t_v3, i_p1, i_m1, t_k0, t_k1, k_some, k_none, true_and, and_true, ite_true, ite_false, Fin.isValue, l_t0, l_t1, l_ts, l_tn0, l_tns, l_el, t_L, t_Wl, t_v1, t_l0, t_l1, List.tail_cons, List.tail_nil, e_aload_n_0, e_bipush, e_getfield, e_goto0, e_goto1, e_i2l, e_iaload0, e_iastore, e_icmp_ge0, e_icmp_gt0, e_icmp_lt0, e_iconst, e_if_eq0, e_if_ge0, e_if_ne0, e_iinc, e_iload, e_iload_n_0, e_iload_n_1, e_iload_n_2, e_imul, e_invs3_1, e_invv5_0, e_ireturn, e_istore, e_lcmp, e_lconst, e_lload_n_3, e_lstore_n_3, e_nop0, e_nop1, e_putfield, e_sipush, b115_0, b115_1, b115_2, b164_0, b164_1, b164_2, b164_3, b164_4, b164_5, ci161, ml115, q115_0, q115_1, q115_2, q164_0, q164_1, q164_2, q164_3, q164_4, q164_5, zE164, zE115, o_0, o_1, o_2, a_2, w_2, o_3, a_3, w_3, o_4, o_5, a_5, w_5, o_6, o_7, a_7, w_7, o_8, o_9, a_9, w_9, o_10, o_11, a_11, w_11, o_12, o_13, a_13, w_13, o_14, o_15, o_16, a_16, w_16, o_17, a_17, w_17, o_18, a_18, w_18, o_19, a_19, w_19, o_20, a_20, w_20, o_21, o_22, a_22, w_22, o_23, o_24, a_24, w_24, o_25, a_25, w_25, o_50, o_51, a_51, w_51, o_52, a_52, w_52, o_53, a_53, w_53, o_54, a_54, w_54, o_55, a_55, w_55, o_56, a_56, w_56, o_57, a_57, w_57, o_58, a_58, w_58, o_59, a_59, w_59, o_60, a_60, w_60, o_61, a_61, w_61, o_62, a_62, w_62, o_63, a_63, w_63, o_64, a_64, w_64, o_rp, o_rs, a_rs, w_rs, r_0_0, r_0_1, r_0_2, r_0_3, r_0_4, r_0_5, r_0_6, r_0_7, r_0_12, r_1_3, r_4_0, r_4_1, r_6_0, r_8_0, r_10_2, r_12_2, r_14_0, r_14_1, r_14_2, r_14_3, r_14_4, r_14_5, r_15_2, r_21_0, r_23_0, r_50_1, r_50_5, r_50_6, r_50_7, r_50_8, r_50_10, r_50_11, r_50_12, r_50_13, r_50_14, r_50_17, r_50_18, r_50_21, r_50_23, r_rp, r_rs, h_Fs, h_FF, h_FI, h_FL, h_Is, h_II, h_IF, h_IL, h_Ls, h_LL, h_LF, h_LI, nI_ltT, nI_ltF, nI_leT, nI_leF, nI_eqT, nI_eqF, ng_ltT, ng_ltF, ng_leT, ng_leF, ng_eqF, ng_eqG, n_ltT, n_leT, n_ltF, n_leF, n_eqF, n_eqG, ng_inj, zix_nI, zinR_nI, nI_add, ↓reduceIte, true_or, or_true, or_self, not_true, not_false, Nat.reduceAdd, l_s0g, l_s1g, l_t0g, List.tail_cons, List.tail_nil]
        exact hQ _ zsm_rf hI
    · have h0 : (n < nI 0) = False := z_nlt (z_gebig hb (by decide) (by decide))
      have h1 : (nI 0 ≤ n) = True := eq_true (z_gebig hb (by decide) (by decide))
      have h2 : (n ≤ nI 64) = False := z_nle (Int32.lt_of_lt_of_le (nI_lt (by decide) (by decide)) hb)
      refine zB2_of hS (.int (-nI 1)) (fun X H Q hI hR hQ => ?_) (fun X H Q hI hR hQ => ?_)
      · refine zgo_call 20 (by decide) (by decide +kernel) True.intro ?_
        simp (disch := first | assumption | omega) only [l_g0, l_gs, l_s0, l_s1, l_ss, l_sn0, l_sns, l_ki, l_kr, l_kl, l_ka, l_en, l_ei, l_er, t_I, t_R, t_W0, t_Wi, t_Wr, t_v0, t_v2, t_v3, i_p1, i_m1, t_k0, t_k1, k_some, k_none, true_and, and_true, ite_true, ite_false, Fin.isValue, l_t0, l_t1, l_ts, l_tn0, l_tns, l_el, t_L, t_Wl, t_v1, t_l0, t_l1, List.tail_cons, List.tail_nil, e_aload_n_0, e_aload_n_3, e_astore_n_3, e_bipush, e_getfield, e_goto0, e_i2l, e_icmp_le0, e_iconst, e_if_lt0, e_if_ne0, e_iload_n_1, e_iload_n_2, e_invv1_1, e_invv3_0, e_ireturn, e_lcmp, e_lconst, e_nop0, e_putfield, b13_0, b13_1, b13_2, b21_0, b96_0, b96_1, b96_2, b96_3, b96_4, ci112, ci13, ci21, ml13, ml21, q13_0, q13_1, q13_2, q21_0, q96_0, q96_1, q96_2, q96_3, q96_4, zE96, zE13, zE21, o_0, o_1, o_2, a_2, w_2, o_3, a_3, w_3, o_4, o_5, a_5, w_5, o_6, o_7, a_7, w_7, o_8, o_9, a_9, w_9, o_10, o_11, a_11, w_11, o_12, o_13, a_13, w_13, o_14, o_15, o_16, a_16, w_16, o_17, a_17, w_17, o_18, a_18, w_18, o_19, a_19, w_19, o_20, a_20, w_20, o_21, o_22, a_22, w_22, o_23, o_24, a_24, w_24, o_25, a_25, w_25, o_50, o_51, a_51, w_51, o_52, a_52, w_52, o_53, a_53, w_53, o_54, a_54, w_54, o_55, a_55, w_55, o_56, a_56, w_56, o_57, a_57, w_57, o_58, a_58, w_58, o_59, a_59, w_59, o_60, a_60, w_60, o_61, a_61, w_61, o_62, a_62, w_62, o_63, a_63, w_63, o_64, a_64, w_64, o_rp, o_rs, a_rs, w_rs, r_0_0, r_0_1, r_0_2, r_0_3, r_0_4, r_0_5, r_0_6, r_0_7, r_0_12, r_1_3, r_4_0, r_4_1, r_6_0, r_8_0, r_10_2, r_12_2, r_14_0, r_14_1, r_14_2, r_14_3, r_14_4, r_14_5, r_15_2, r_21_0, r_23_0, r_50_1, r_50_5, r_50_6, r_50_7, r_50_8, r_50_10, r_50_11, r_50_12, r_50_13, r_50_14, r_50_17, r_50_18, r_50_21, r_50_23, r_rp, r_rs, h_Fs, h_FF, h_FI, h_FL, h_Is, h_II, h_IF, h_IL, h_Ls, h_LL, h_LF, h_LI, nI_ltT, nI_ltF, nI_leT, nI_leF, nI_eqT, nI_eqF, ng_ltT, ng_ltF, ng_leT, ng_leF, ng_eqF, ng_eqG, n_ltT, n_leT, n_ltF, n_leF, n_eqF, n_eqG, ng_inj, zix_nI, zinR_nI, nI_add, ↓reduceIte, true_or, or_true, or_self, not_true, not_false, Nat.reduceAdd, l_s0g, l_s1g, l_t0g, List.tail_cons, List.tail_nil, h0, h1, h2]
        exact hQ _ zsm_rf hI
      · refine zgo_call 20 (by decide) (by decide +kernel) True.intro ?_
        simp (disch := first | assumption | omega) only [l_g0, l_gs, l_s0, l_s1, l_ss, l_sn0, l_sns, l_ki, l_kr, l_kl, l_ka, l_en, l_ei, l_er, t_I, t_R, t_W0, t_Wi, t_Wr, t_v0, t_v2, t_v3, i_p1, i_m1, t_k0, t_k1, k_some, k_none, true_and, and_true, ite_true, ite_false, Fin.isValue, l_t0, l_t1, l_ts, l_tn0, l_tns, l_el, t_L, t_Wl, t_v1, t_l0, t_l1, List.tail_cons, List.tail_nil, e_aload_n_0, e_bipush, e_getfield, e_goto0, e_goto1, e_i2l, e_iaload0, e_iastore, e_icmp_ge0, e_icmp_gt0, e_icmp_lt0, e_iconst, e_if_eq0, e_if_ge0, e_if_ne0, e_iinc, e_iload, e_iload_n_0, e_iload_n_1, e_iload_n_2, e_imul, e_invs3_1, e_invv5_0, e_ireturn, e_istore, e_lcmp, e_lconst, e_lload_n_3, e_lstore_n_3, e_nop0, e_nop1, e_putfield, e_sipush, b115_0, b115_1, b115_2, b164_0, b164_1, b164_2, b164_3, b164_4, b164_5, ci161, ml115, q115_0, q115_1, q115_2, q164_0, q164_1, q164_2, q164_3, q164_4, q164_5, zE164, zE115, o_0, o_1, o_2, a_2, w_2, o_3, a_3, w_3, o_4, o_5, a_5, w_5, o_6, o_7, a_7, w_7, o_8, o_9, a_9, w_9, o_10, o_11, a_11, w_11, o_12, o_13, a_13, w_13, o_14, o_15, o_16, a_16, w_16, o_17, a_17, w_17, o_18, a_18, w_18, o_19, a_19, w_19, o_20, a_20, w_20, o_21, o_22, a_22, w_22, o_23, o_24, a_24, w_24, o_25, a_25, w_25, o_50, o_51, a_51, w_51, o_52, a_52, w_52, o_53, a_53, w_53, o_54, a_54, w_54, o_55, a_55, w_55, o_56, a_56, w_56, o_57, a_57, w_57, o_58, a_58, w_58, o_59, a_59, w_59, o_60, a_60, w_60, o_61, a_61, w_61, o_62, a_62, w_62, o_63, a_63, w_63, o_64, a_64, w_64, o_rp, o_rs, a_rs, w_rs, r_0_0, r_0_1, r_0_2, r_0_3, r_0_4, r_0_5, r_0_6, r_0_7, r_0_12, r_1_3, r_4_0, r_4_1, r_6_0, r_8_0, r_10_2, r_12_2, r_14_0, r_14_1, r_14_2, r_14_3, r_14_4, r_14_5, r_15_2, r_21_0, r_23_0, r_50_1, r_50_5, r_50_6, r_50_7, r_50_8, r_50_10, r_50_11, r_50_12, r_50_13, r_50_14, r_50_17, r_50_18, r_50_21, r_50_23, r_rp, r_rs, h_Fs, h_FF, h_FI, h_FL, h_Is, h_II, h_IF, h_IL, h_Ls, h_LL, h_LF, h_LI, nI_ltT, nI_ltF, nI_leT, nI_leF, nI_eqT, nI_eqF, ng_ltT, ng_ltF, ng_leT, ng_leF, ng_eqF, ng_eqG, n_ltT, n_leT, n_ltF, n_leF, n_eqF, n_eqG, ng_inj, zix_nI, zinR_nI, nI_add, ↓reduceIte, true_or, or_true, or_self, not_true, not_false, Nat.reduceAdd, l_s0g, l_s1g, l_t0g, List.tail_cons, List.tail_nil, h0, h1, h2]
        exact hQ _ zsm_rf hI
