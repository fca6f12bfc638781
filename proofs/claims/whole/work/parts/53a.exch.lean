/-! turns: sums over the orders -/
def zsg (f : Nat → Nat) : Nat → Nat
  | 0 => 0
  | n + 1 => zsg f n + f n
theorem zsg_cong {f g : Nat → Nat} : ∀ {n : Nat}, (∀ k, k < n → f k = g k) → zsg f n = zsg g n
  | 0, _ => rfl
  | n + 1, h => by
    show zsg f n + f n = zsg g n + g n
    rw [zsg_cong (fun k hk => h k (by omega)), h n (by omega)]
theorem zsg_range (f : Nat → Nat) : ∀ n, zsg f n = ((List.range n).map f).sum
  | 0 => rfl
  | n + 1 => by
    show zsg f n + f n = _
    rw [List.range_succ, List.map_append, List.sum_append, zsg_range f n]
    simp
theorem zsg_list (f : Nat → Nat) (l : List Nat) : zsg (fun k => f (l.getD k 0)) l.length = (l.map f).sum := by
  rw [zsg_range]
  congr 1
  apply List.ext_getElem
  · simp
  · intro i h1 h2
    simp at h1 h2
    simp [List.getD_eq_getElem?_getD, List.getElem?_eq_getElem h2]
theorem zdx_cd : ∀ (l : List Nat), (∀ x ∈ l, x < 16) → ∀ j, zdx (zcd l) j = l.getD j 0
  | [], _, j => by
    show 0 / 16 ^ j % 16 = _
    rw [Nat.zero_div]
    rfl
  | a :: l, h, 0 => by
    have := h a List.mem_cons_self
    show (a + 16 * zcd l) / 16 ^ 0 % 16 = a
    rw [Nat.pow_zero, Nat.div_one]
    omega
  | a :: l, h, j + 1 => by
    have ha := h a List.mem_cons_self
    have ih := zdx_cd l (fun x hx => h x (List.mem_cons_of_mem _ hx)) j
    show (a + 16 * zcd l) / 16 ^ (j + 1) % 16 = l.getD j 0
    rw [Nat.pow_succ, Nat.mul_comm (16 ^ j), ← Nat.div_div_eq_div_mul]
    have : (a + 16 * zcd l) / 16 = zcd l := by omega
    rw [this]
    exact ih
theorem zsw2_lt {a b j : Nat} (ha : a < 6) (hb : b < 6) (hj : j < 6) : zsw2 a b j < 6 := by
  unfold zsw2
  split
  · exact hb
  · split
    · exact ha
    · exact hj
theorem zmap_ok {a b : Nat} {l : List Nat} (ha : a < 6) (hb : b < 6) (h : l.length = 6 ∧ ∀ x ∈ l, x < 6) : (l.map (zsw2 a b)).length = 6 ∧ ∀ x ∈ l.map (zsw2 a b), x < 6 := ⟨by rw [List.length_map]; exact h.1, fun x hx => by
  obtain ⟨y, hy, rfl⟩ := List.mem_map.mp hx
  exact zsw2_lt ha hb (h.2 y hy)⟩
theorem zorl_ok : ∀ (w r : Nat) (l : List Nat), w ≤ 5 → (l.length = 6 ∧ ∀ x ∈ l, x < 6) → (zorl w r l).length = 6 ∧ ∀ x ∈ zorl w r l, x < 6
  | 0, _, _, _, h => h
  | w + 1, r, l, hw, h => by
    show (zorl w (r / (w + 2)) (if r % (w + 2) < w + 1 then l.map (zsw2 (r % (w + 2)) (w + 1)) else l)).length = 6 ∧ _
    refine zorl_ok w _ _ (by omega) ?_
    split
    · exact zmap_ok (by omega) (by omega) h
    · exact h
theorem zl6_ok : ([0, 1, 2, 3, 4, 5] : List Nat).length = 6 ∧ ∀ x ∈ ([0, 1, 2, 3, 4, 5] : List Nat), x < 6 := by decide
theorem zord_ok {D k : Nat} (hD : D ≤ 6) : (zord D k).length = 6 ∧ ∀ x ∈ zord D k, x < 6 := zorl_ok _ _ _ (by omega) zl6_ok
theorem zgx_cong {D : Nat} {P : Nat → Bool} {f g : Nat → Nat} (h : ∀ j, j < 6 → f j = g j) : zgx D P f = zgx D P g := by
  unfold zgx
  refine fb_ct_cong (fun x _ => zga_cong (fun d _ => ?_))
  rw [ztau_cong h]
/-- both count the same -/
theorem zturn_eq {D n : Nat} {c : Nat → Nat} {P : Nat → Bool} (h1 : 1 ≤ D) (hD : D ≤ 6) (hn : 0 < n) (h0 : c 0 = 0) (hc : ∀ i, i < n → c i < 2 ^ D) (hdist : ∀ i j, i < n → j < n → c i = c j → i = j) (hP : ∀ d, P d = true ↔ ∃ i, i < n ∧ c i = d) :
    zsg (fun k => zgx D P (fun j => (zord D k).getD j 0)) (zfac D) = zsg (fun k => zgt n c P (zinv ((zpo D).getD k 0))) (zfac D) := by
  have hp := zord_perm D (by omega) h1
  have e1 : zsg (fun k => zgx D P (fun j => (zord D k).getD j 0)) (zfac D) = zsg (fun k => (fun q => zgt n c P (zinv q)) (zcd (zord D k))) (zfac D) := by
    refine zsg_cong (fun k hk => ?_)
    have hm : zcd (zord D k) ∈ zpo D := hp.mem_iff.mp (List.mem_map.mpr ⟨k, List.mem_range.mpr hk, rfl⟩)
    have ok := zpo_ok D (by omega) h1 _ hm
    have ho := zord_ok (k := k) hD
    rw [zgx_cong (g := zdx (zcd (zord D k))) (fun j hj => (zdx_cd _ (fun x hx => Nat.lt_trans (ho.2 x hx) (by decide)) j).symm)]
    exact zgx_eq hD hn h0 hc hdist hP (fun j hj => ⟨(ok j hj).1, (ok j hj).2.1⟩) (fun j hj => ⟨(ok j hj).2.2.1, (ok j hj).2.2.2.1⟩)
  have e2 : zsg (fun k => zgt n c P (zinv ((zpo D).getD k 0))) (zfac D) = ((zpo D).map (fun q => zgt n c P (zinv q))).sum := by
    have := zsg_list (fun q => zgt n c P (zinv q)) (zpo D)
    rw [zpo_len D (by omega) h1] at this
    exact this
  rw [e1, e2, zsg_range]
  have := (hp.map (fun q => zgt n c P (zinv q))).sum_nat
  rw [List.map_map] at this
  exact this
/-! turns: the class -/
def zri1 (a b d : Nat) : Bool := decide (d / 2 ^ b % 2 = 0) && !decide (d / 2 ^ a % 2 = 0)
def zri2 (a b d : Nat) : Bool := decide (2 ^ b - 2 ^ a ≤ d) && zri1 a b (d - (2 ^ b - 2 ^ a))
def zexk (b a d : Nat) : Bool := if zri1 a b d then decide (2 ^ b - 2 ^ a + d < 64) && (ztau (zsw2 a b) d == 2 ^ b - 2 ^ a + d) && !zri2 a b d else if zri2 a b d then ztau (zsw2 a b) d == d - (2 ^ b - 2 ^ a) else ztau (zsw2 a b) d == d
theorem zex_k : zga (fun b => zga (fun a => zga (zexk b a) 64) b) 6 = true := by decide +kernel
theorem zex_n (b : Nat) (hb : b < 6) (a : Nat) (ha : a < b) (d : Nat) (hd : d < 64) : (zri1 a b d = true → 2 ^ b - 2 ^ a + d < 64 ∧ ztau (zsw2 a b) d = 2 ^ b - 2 ^ a + d ∧ zri2 a b d = false) ∧ (zri1 a b d = false → zri2 a b d = true → ztau (zsw2 a b) d = d - (2 ^ b - 2 ^ a)) ∧ (zri1 a b d = false → zri2 a b d = false → ztau (zsw2 a b) d = d) := by
  have h := zga_iff.mp (zga_iff.mp (zga_iff.mp zex_k b hb) a ha) d hd
  unfold zexk at h
  refine ⟨fun h1 => ?_, fun h1 h2 => ?_, fun h1 h2 => ?_⟩
  · rw [h1] at h
    simp only [if_true, Bool.and_eq_true, decide_eq_true_eq, beq_iff_eq, Bool.not_eq_true'] at h
    exact ⟨h.1.1, h.1.2, h.2⟩
  · rw [h1, h2] at h
    simp only [if_true, Bool.false_eq_true, if_false, beq_iff_eq] at h
    exact h
  · rw [h1, h2] at h
    simp only [Bool.false_eq_true, if_false, beq_iff_eq] at h
    exact h
theorem z_w2 : ∀ b, b < 6 → ∀ a, a < b → 2 ^ a ≤ 2 ^ b ∧ 2 ^ b - 2 ^ a < 64 := by decide +kernel
theorem zex_bit {x : Int64} {a b : Nat} (hb : b < 6) (ha : a < b) {d : Nat} (hd : d < 64) : zbit ((x &&& (zwof b &&& (zwof a ^^^ -lN 1))) <<< ((nI (2 ^ b - 2 ^ a)).toInt64 &&& 63) ||| ((x &&& (zwof b &&& (zwof a ^^^ -lN 1)) <<< ((nI (2 ^ b - 2 ^ a)).toInt64 &&& 63)).toUInt64 >>> ((nI (2 ^ b - 2 ^ a)).toInt64.toUInt64 &&& Int64.toUInt64 63)).toInt64 ||| x &&& ((zwof b &&& (zwof a ^^^ -lN 1) ||| (zwof b &&& (zwof a ^^^ -lN 1)) <<< ((nI (2 ^ b - 2 ^ a)).toInt64 &&& 63)) ^^^ -lN 1)) d = zbit x (ztau (zsw2 a b) d) := by
  have h64 := (z_w2 b hb a ha).2
  have hR : ∀ d, d < 64 → zbit (zwof b &&& (zwof a ^^^ -lN 1)) d = zri1 a b d := fun d hd => by
    rw [zbit_and, zbit_not _ hd, zwof_b b hb d hd, zwof_b a (by omega) d hd]
    rfl
  have hF : ∀ d, d < 64 → zbit ((zwof b &&& (zwof a ^^^ -lN 1)) <<< ((nI (2 ^ b - 2 ^ a)).toInt64 &&& 63)) d = zri2 a b d := fun d hd => by
    rw [zbit_shl _ h64, decide_eq_true hd, Bool.true_and, hR _ (by omega)]
    rfl
  generalize zwof b &&& (zwof a ^^^ -lN 1) = R at hR hF ⊢
  generalize hFa : R <<< ((nI (2 ^ b - 2 ^ a)).toInt64 &&& 63) = F at hF ⊢
  obtain ⟨n1, n2, n3⟩ := zex_n b hb a ha d hd
  rw [zbit_or, zbit_or, zbit_shl _ h64, zbit_and, zbit_ushr _ h64, zbit_and, zbit_and, zbit_not _ hd, zbit_or, hR d hd, hF d hd, hR (d - (2 ^ b - 2 ^ a)) (by omega), decide_eq_true hd, Bool.true_and]
  have e1 : (decide (2 ^ b - 2 ^ a ≤ d) && (zbit x (d - (2 ^ b - 2 ^ a)) && zri1 a b (d - (2 ^ b - 2 ^ a)))) = (zbit x (d - (2 ^ b - 2 ^ a)) && zri2 a b d) := by
    unfold zri2
    cases decide (2 ^ b - 2 ^ a ≤ d) <;> cases zbit x (d - (2 ^ b - 2 ^ a)) <;> rfl
  rw [e1]
  cases h1 : zri1 a b d with
  | true =>
    obtain ⟨m1, m2, m3⟩ := n1 h1
    rw [m3, m2, hF _ m1]
    have e2 : zri2 a b (2 ^ b - 2 ^ a + d) = true := by
      unfold zri2
      rw [decide_eq_true (by omega), Nat.add_sub_cancel_left, h1]
      rfl
    rw [e2]
    simp
  | false =>
    have e3 : (zbit x (2 ^ b - 2 ^ a + d) && zbit F (2 ^ b - 2 ^ a + d)) = false := by
      by_cases h5 : 2 ^ b - 2 ^ a + d < 64
      · rw [hF _ h5]
        unfold zri2
        rw [Nat.add_sub_cancel_left, h1]
        simp
      · rw [zbit_hi (by omega)]
        rfl
    rw [e3]
    cases h2 : zri2 a b d with
    | true =>
      rw [n2 h1 h2]
      simp
    | false =>
      rw [n3 h1 h2]
      simp
theorem x_exchanged {X : zX} {H : zHp} {x : Int64} {a b : Nat} {Q : Option Value → zHp → Prop} (hb : b < 6) (ha : a < b) (hQ : ∀ r : Int64, (∀ d, d < 64 → zbit r d = zbit x (ztau (zsw2 a b) d)) → Q (some (.long r)) H) : zCall X 4 65 [.long x, .int (nI a), .int (nI b)] H Q := by
  have hQ := hQ _ (fun d hd => zex_bit hb ha hd)
  have h2 := (z_w2 b hb a ha).1
  refine zgo_call 20 (by decide) (by decide +kernel) True.intro ?_
  simp (disch := first | assumption | omega) only [l_g0, l_gs, l_s0, l_s1, l_ss, l_sn0, l_sns, l_ki, l_kr, l_kl, l_ka, l_en, l_ei, l_er, t_I, t_R, t_W0, t_Wi, t_Wr, t_v0, t_v2, t_v3, i_p1, i_m1, t_k0, t_k1, k_some, k_none, true_and, and_true, ite_true, ite_false, Fin.isValue, l_t0, l_t1, l_ts, l_tn0, l_tns, l_el, t_L, t_Wl, t_v1, t_l0, t_l1, List.tail_cons, List.tail_nil, e_iconst, e_iload, e_iload_n_2, e_iload_n_3, e_invs1_0, e_ishl, e_istore, e_isub, e_land, e_ldc2_w, e_lload, e_lload_n_0, e_lor, e_lreturn, e_lshl, e_lstore, e_lushr, e_lxor, b4_0, q4_0, zE4, o_0, o_1, o_2, a_2, w_2, o_3, a_3, w_3, o_4, o_5, a_5, w_5, o_6, o_7, a_7, w_7, o_8, o_9, a_9, w_9, o_10, o_11, a_11, w_11, o_12, o_13, a_13, w_13, o_14, o_15, o_16, a_16, w_16, o_17, a_17, w_17, o_18, a_18, w_18, o_19, a_19, w_19, o_20, a_20, w_20, o_21, o_22, a_22, w_22, o_23, o_24, a_24, w_24, o_25, a_25, w_25, o_50, o_51, a_51, w_51, o_52, a_52, w_52, o_53, a_53, w_53, o_54, a_54, w_54, o_55, a_55, w_55, o_56, a_56, w_56, o_57, a_57, w_57, o_58, a_58, w_58, o_59, a_59, w_59, o_60, a_60, w_60, o_61, a_61, w_61, o_62, a_62, w_62, o_63, a_63, w_63, o_64, a_64, w_64, o_rp, o_rs, a_rs, w_rs, r_0_0, r_0_1, r_0_2, r_0_3, r_0_4, r_0_5, r_0_6, r_0_7, r_0_12, r_1_3, r_4_0, r_4_1, r_6_0, r_8_0, r_10_2, r_12_2, r_14_0, r_14_1, r_14_2, r_14_3, r_14_4, r_14_5, r_15_2, r_21_0, r_23_0, r_50_1, r_50_5, r_50_6, r_50_7, r_50_8, r_50_10, r_50_11, r_50_12, r_50_13, r_50_14, r_50_17, r_50_18, r_50_21, r_50_23, r_rp, r_rs, h_Fs, h_FF, h_FI, h_FL, h_Is, h_II, h_IF, h_IL, h_Ls, h_LL, h_LF, h_LI, nI_ltT, nI_ltF, nI_leT, nI_leF, nI_eqT, nI_eqF, ng_ltT, ng_ltF, ng_leT, ng_leF, ng_eqF, ng_eqG, n_ltT, n_leT, n_ltF, n_leF, n_eqF, n_eqG, ng_inj, zix_nI, zinR_nI, nI_add, ↓reduceIte, true_or, or_true, or_self, not_true, not_false, Nat.reduceAdd, l_s0g, l_s1g, l_t0g, List.tail_cons, List.tail_nil]
  refine x_without hb ?_
  simp (disch := first | assumption | omega) only [l_g0, l_gs, l_s0, l_s1, l_ss, l_sn0, l_sns, l_ki, l_kr, l_kl, l_ka, l_en, l_ei, l_er, t_I, t_R, t_W0, t_Wi, t_Wr, t_v0, t_v2, t_v3, i_p1, i_m1, t_k0, t_k1, k_some, k_none, true_and, and_true, ite_true, ite_false, Fin.isValue, l_t0, l_t1, l_ts, l_tn0, l_tns, l_el, t_L, t_Wl, t_v1, t_l0, t_l1, List.tail_cons, List.tail_nil, e_iconst, e_iload, e_iload_n_2, e_iload_n_3, e_invs1_0, e_ishl, e_istore, e_isub, e_land, e_ldc2_w, e_lload, e_lload_n_0, e_lor, e_lreturn, e_lshl, e_lstore, e_lushr, e_lxor, b4_0, q4_0, zE4, o_0, o_1, o_2, a_2, w_2, o_3, a_3, w_3, o_4, o_5, a_5, w_5, o_6, o_7, a_7, w_7, o_8, o_9, a_9, w_9, o_10, o_11, a_11, w_11, o_12, o_13, a_13, w_13, o_14, o_15, o_16, a_16, w_16, o_17, a_17, w_17, o_18, a_18, w_18, o_19, a_19, w_19, o_20, a_20, w_20, o_21, o_22, a_22, w_22, o_23, o_24, a_24, w_24, o_25, a_25, w_25, o_50, o_51, a_51, w_51, o_52, a_52, w_52, o_53, a_53, w_53, o_54, a_54, w_54, o_55, a_55, w_55, o_56, a_56, w_56, o_57, a_57, w_57, o_58, a_58, w_58, o_59, a_59, w_59, o_60, a_60, w_60, o_61, a_61, w_61, o_62, a_62, w_62, o_63, a_63, w_63, o_64, a_64, w_64, o_rp, o_rs, a_rs, w_rs, r_0_0, r_0_1, r_0_2, r_0_3, r_0_4, r_0_5, r_0_6, r_0_7, r_0_12, r_1_3, r_4_0, r_4_1, r_6_0, r_8_0, r_10_2, r_12_2, r_14_0, r_14_1, r_14_2, r_14_3, r_14_4, r_14_5, r_15_2, r_21_0, r_23_0, r_50_1, r_50_5, r_50_6, r_50_7, r_50_8, r_50_10, r_50_11, r_50_12, r_50_13, r_50_14, r_50_17, r_50_18, r_50_21, r_50_23, r_rp, r_rs, h_Fs, h_FF, h_FI, h_FL, h_Is, h_II, h_IF, h_IL, h_Ls, h_LL, h_LF, h_LI, nI_ltT, nI_ltF, nI_leT, nI_leF, nI_eqT, nI_eqF, ng_ltT, ng_ltF, ng_leT, ng_leF, ng_eqF, ng_eqG, n_ltT, n_leT, n_ltF, n_leF, n_eqF, n_eqG, ng_inj, zix_nI, zinR_nI, nI_add, ↓reduceIte, true_or, or_true, or_self, not_true, not_false, Nat.reduceAdd, l_s0g, l_s1g, l_t0g, List.tail_cons, List.tail_nil]
  refine x_without (by omega) ?_
  simp (disch := first | assumption | omega) only [l_g0, l_gs, l_s0, l_s1, l_ss, l_sn0, l_sns, l_ki, l_kr, l_kl, l_ka, l_en, l_ei, l_er, t_I, t_R, t_W0, t_Wi, t_Wr, t_v0, t_v2, t_v3, i_p1, i_m1, t_k0, t_k1, k_some, k_none, true_and, and_true, ite_true, ite_false, Fin.isValue, l_t0, l_t1, l_ts, l_tn0, l_tns, l_el, t_L, t_Wl, t_v1, t_l0, t_l1, List.tail_cons, List.tail_nil, e_iconst, e_iload, e_iload_n_2, e_iload_n_3, e_invs1_0, e_ishl, e_istore, e_isub, e_land, e_ldc2_w, e_lload, e_lload_n_0, e_lor, e_lreturn, e_lshl, e_lstore, e_lushr, e_lxor, b4_0, q4_0, zE4, o_0, o_1, o_2, a_2, w_2, o_3, a_3, w_3, o_4, o_5, a_5, w_5, o_6, o_7, a_7, w_7, o_8, o_9, a_9, w_9, o_10, o_11, a_11, w_11, o_12, o_13, a_13, w_13, o_14, o_15, o_16, a_16, w_16, o_17, a_17, w_17, o_18, a_18, w_18, o_19, a_19, w_19, o_20, a_20, w_20, o_21, o_22, a_22, w_22, o_23, o_24, a_24, w_24, o_25, a_25, w_25, o_50, o_51, a_51, w_51, o_52, a_52, w_52, o_53, a_53, w_53, o_54, a_54, w_54, o_55, a_55, w_55, o_56, a_56, w_56, o_57, a_57, w_57, o_58, a_58, w_58, o_59, a_59, w_59, o_60, a_60, w_60, o_61, a_61, w_61, o_62, a_62, w_62, o_63, a_63, w_63, o_64, a_64, w_64, o_rp, o_rs, a_rs, w_rs, r_0_0, r_0_1, r_0_2, r_0_3, r_0_4, r_0_5, r_0_6, r_0_7, r_0_12, r_1_3, r_4_0, r_4_1, r_6_0, r_8_0, r_10_2, r_12_2, r_14_0, r_14_1, r_14_2, r_14_3, r_14_4, r_14_5, r_15_2, r_21_0, r_23_0, r_50_1, r_50_5, r_50_6, r_50_7, r_50_8, r_50_10, r_50_11, r_50_12, r_50_13, r_50_14, r_50_17, r_50_18, r_50_21, r_50_23, r_rp, r_rs, h_Fs, h_FF, h_FI, h_FL, h_Is, h_II, h_IF, h_IL, h_Ls, h_LL, h_LF, h_LI, nI_ltT, nI_ltF, nI_leT, nI_leF, nI_eqT, nI_eqF, ng_ltT, ng_ltF, ng_leT, ng_leF, ng_eqF, ng_eqG, n_ltT, n_leT, n_ltF, n_leF, n_eqF, n_eqG, ng_inj, zix_nI, zinR_nI, nI_add, ↓reduceIte, true_or, or_true, or_self, not_true, not_false, Nat.reduceAdd, l_s0g, l_s1g, l_t0g, List.tail_cons, List.tail_nil, nx_s1, nI_sub]
  exact hQ
theorem ztau_comp {f g : Nat → Nat} {d : Nat} (h : ∀ j, j < 6 → f j < 6) : ztau f (ztau g d) = ztau (fun j => g (f j)) d := z_bits6 (ztau_lt _ _) (ztau_lt _ _) (fun j hj => by
  rw [ztau_bit, ztau_bit, ztau_bit, decide_eq_true (h j hj), Bool.true_and])
theorem zmap_at {f : Nat → Nat} {l : List Nat} {j : Nat} (h : j < l.length) : (l.map f).getD j 0 = f (l.getD j 0) := by
  simp [List.getD_eq_getElem?_getD, List.getElem?_eq_getElem h]
theorem zl_at {l : List Nat} (h : l.length = 6 ∧ ∀ x ∈ l, x < 6) {j : Nat} (hj : j < 6) : l.getD j 0 < 6 := by
  rw [List.getD_eq_getElem?_getD, List.getElem?_eq_getElem (by omega)]
  exact h.2 _ (List.getElem_mem _)
theorem zid_at : ∀ j, j < 6 → ([0, 1, 2, 3, 4, 5] : List Nat).getD j 0 = j := by decide
theorem zorl_s (w r : Nat) (l : List Nat) : zorl (w + 1) r l = zorl w (r / (w + 2)) (if r % (w + 2) < w + 1 then l.map (zsw2 (r % (w + 2)) (w + 1)) else l) := rfl
