/-! sets of corners -/
theorem zwof_b : ∀ w, w < 6 → ∀ d, d < 64 → zbit (zwof w) d = decide (d / 2 ^ w % 2 = 0) := by decide +kernel
theorem zstep_n : ∀ w, w < 6 → ∀ d, d < 64 → (d / 2 ^ w % 2 = 1 → 2 ^ w ≤ d ∧ d - 2 ^ w = d ^^^ 2 ^ w ∧ (d - 2 ^ w) / 2 ^ w % 2 = 0) ∧ (d / 2 ^ w % 2 = 0 → 2 ^ w + d = d ^^^ 2 ^ w ∧ 2 ^ w + d < 64 ∧ (2 ^ w ≤ d → (d - 2 ^ w) / 2 ^ w % 2 = 1)) := by decide +kernel
theorem z_w64 {w : Nat} (h : w < 6) : 2 ^ w < 64 := Nat.pow_lt_pow_right (a := 2) (by decide) h
theorem zx_w {w d : Nat} (h : w < 6) (hd : d < 64) : d ^^^ 2 ^ w < 64 := zx_lt hd (z_w64 h)
theorem zstep_bit {x : Int64} {w : Nat} (hw : w < 6) {d : Nat} (hd : d < 64) : zbit ((x &&& zwof w) <<< ((nI (2 ^ w)).toInt64 &&& 63) ||| (x.toUInt64 >>> ((nI (2 ^ w)).toInt64.toUInt64 &&& Int64.toUInt64 63)).toInt64 &&& zwof w) d = zbit x (d ^^^ 2 ^ w) := by
  have h64 := z_w64 hw
  have ⟨h1, h0⟩ := zstep_n w hw d hd
  rw [zbit_or, zbit_shl _ h64, zbit_and, zbit_and, zbit_ushr _ h64, zwof_b w hw d hd, decide_eq_true hd, Bool.true_and]
  rcases (show d / 2 ^ w % 2 = 0 ∨ d / 2 ^ w % 2 = 1 by omega) with e | e
  · have ⟨h2, h3, h4⟩ := h0 e
    rw [decide_eq_true e, Bool.and_true, h2]
    by_cases h5 : 2 ^ w ≤ d
    · have h6 := h4 h5
      rw [zwof_b w hw _ (Nat.lt_of_le_of_lt (Nat.sub_le _ _) hd), h6]
      simp
    · rw [decide_eq_false h5]
      simp
  · have ⟨h2, h3, h4⟩ := h1 e
    rw [h3] at h4
    rw [decide_eq_false (show ¬ d / 2 ^ w % 2 = 0 by omega), Bool.and_false, Bool.or_false, decide_eq_true h2, h3, zwof_b w hw _ (zx_w hw hd), decide_eq_true h4]
    simp
theorem x_without {X : zX} {H : zHp} {w : Nat} {Q : Option Value → zHp → Prop} (hw : w < 6) (hQ : Q (some (.long (zwof w))) H) : zCall X 0 65 [.int (nI w)] H Q := by
  refine zgo_call 20 (by decide) (by decide +kernel) True.intro ?_
  simp (disch := first | assumption | omega) only [l_g0, l_gs, l_s0, l_s1, l_ss, l_sn0, l_sns, l_ki, l_kr, l_kl, l_ka, l_en, l_ei, l_er, t_I, t_R, t_W0, t_Wi, t_Wr, t_v0, t_v2, t_v3, i_p1, i_m1, t_k0, t_k1, k_some, k_none, true_and, and_true, ite_true, ite_false, Fin.isValue, l_t0, l_t1, l_ts, l_tn0, l_tns, l_el, t_L, t_Wl, t_v1, t_l0, t_l1, List.tail_cons, List.tail_nil, e_arraylength2, e_getstatic, e_goto0, e_icmp_ge0, e_if_lt0, e_iload_n_0, e_laload2, e_lconst, e_lreturn, e_nop0, b0_0, b0_1, b0_2, q0_0, q0_1, q0_2, zE0, o_0, o_1, o_2, a_2, w_2, o_3, a_3, w_3, o_4, o_5, a_5, w_5, o_6, o_7, a_7, w_7, o_8, o_9, a_9, w_9, o_10, o_11, a_11, w_11, o_12, o_13, a_13, w_13, o_14, o_15, o_16, a_16, w_16, o_17, a_17, w_17, o_18, a_18, w_18, o_19, a_19, w_19, o_20, a_20, w_20, o_21, o_22, a_22, w_22, o_23, o_24, a_24, w_24, o_25, a_25, w_25, o_50, o_51, a_51, w_51, o_52, a_52, w_52, o_53, a_53, w_53, o_54, a_54, w_54, o_55, a_55, w_55, o_56, a_56, w_56, o_57, a_57, w_57, o_58, a_58, w_58, o_59, a_59, w_59, o_60, a_60, w_60, o_61, a_61, w_61, o_62, a_62, w_62, o_63, a_63, w_63, o_64, a_64, w_64, o_rp, o_rs, a_rs, w_rs, r_0_0, r_0_1, r_0_2, r_0_3, r_0_4, r_0_5, r_0_6, r_0_7, r_0_12, r_1_3, r_4_0, r_4_1, r_6_0, r_8_0, r_10_2, r_12_2, r_14_0, r_14_1, r_14_2, r_14_3, r_14_4, r_14_5, r_15_2, r_21_0, r_23_0, r_50_1, r_50_5, r_50_6, r_50_7, r_50_8, r_50_10, r_50_11, r_50_12, r_50_13, r_50_14, r_50_17, r_50_18, r_50_21, r_50_23, r_rp, r_rs, h_Fs, h_FF, h_FI, h_FL, h_Is, h_II, h_IF, h_IL, h_Ls, h_LL, h_LF, h_LI, nI_ltT, nI_ltF, nI_leT, nI_leF, nI_eqT, nI_eqF, ng_ltT, ng_ltF, ng_leT, ng_leF, ng_eqF, ng_eqG, n_ltT, n_leT, n_ltF, n_leF, n_eqF, n_eqG, ng_inj, zix_nI, zinR_nI, nI_add, ↓reduceIte, true_or, or_true, or_self, not_true, not_false, Nat.reduceAdd, l_s0g, l_s1g, l_t0g, List.tail_cons, List.tail_nil]
  exact hQ
theorem x_stepped {X : zX} {H : zHp} {x : Int64} {w : Nat} {Q : Option Value → zHp → Prop} (hw : w < 6) (hQ : ∀ r : Int64, (∀ d, d < 64 → zbit r d = zbit x (d ^^^ 2 ^ w)) → Q (some (.long r)) H) : zCall X 2 65 [.long x, .int (nI w)] H Q := by
  have hQ := hQ _ (fun d hd => zstep_bit hw hd)
  refine zgo_call 20 (by decide) (by decide +kernel) True.intro ?_
  simp (disch := first | assumption | omega) only [l_g0, l_gs, l_s0, l_s1, l_ss, l_sn0, l_sns, l_ki, l_kr, l_kl, l_ka, l_en, l_ei, l_er, t_I, t_R, t_W0, t_Wi, t_Wr, t_v0, t_v2, t_v3, i_p1, i_m1, t_k0, t_k1, k_some, k_none, true_and, and_true, ite_true, ite_false, Fin.isValue, l_t0, l_t1, l_ts, l_tn0, l_tns, l_el, t_L, t_Wl, t_v1, t_l0, t_l1, List.tail_cons, List.tail_nil, e_iconst, e_iload, e_iload_n_2, e_invs1_0, e_ishl, e_istore, e_land, e_lload_n_0, e_lload_n_3, e_lor, e_lreturn, e_lshl, e_lstore_n_3, e_lushr, b2_0, q2_0, zE2, o_0, o_1, o_2, a_2, w_2, o_3, a_3, w_3, o_4, o_5, a_5, w_5, o_6, o_7, a_7, w_7, o_8, o_9, a_9, w_9, o_10, o_11, a_11, w_11, o_12, o_13, a_13, w_13, o_14, o_15, o_16, a_16, w_16, o_17, a_17, w_17, o_18, a_18, w_18, o_19, a_19, w_19, o_20, a_20, w_20, o_21, o_22, a_22, w_22, o_23, o_24, a_24, w_24, o_25, a_25, w_25, o_50, o_51, a_51, w_51, o_52, a_52, w_52, o_53, a_53, w_53, o_54, a_54, w_54, o_55, a_55, w_55, o_56, a_56, w_56, o_57, a_57, w_57, o_58, a_58, w_58, o_59, a_59, w_59, o_60, a_60, w_60, o_61, a_61, w_61, o_62, a_62, w_62, o_63, a_63, w_63, o_64, a_64, w_64, o_rp, o_rs, a_rs, w_rs, r_0_0, r_0_1, r_0_2, r_0_3, r_0_4, r_0_5, r_0_6, r_0_7, r_0_12, r_1_3, r_4_0, r_4_1, r_6_0, r_8_0, r_10_2, r_12_2, r_14_0, r_14_1, r_14_2, r_14_3, r_14_4, r_14_5, r_15_2, r_21_0, r_23_0, r_50_1, r_50_5, r_50_6, r_50_7, r_50_8, r_50_10, r_50_11, r_50_12, r_50_13, r_50_14, r_50_17, r_50_18, r_50_21, r_50_23, r_rp, r_rs, h_Fs, h_FF, h_FI, h_FL, h_Is, h_II, h_IF, h_IL, h_Ls, h_LL, h_LF, h_LI, nI_ltT, nI_ltF, nI_leT, nI_leF, nI_eqT, nI_eqF, ng_ltT, ng_ltF, ng_leT, ng_leF, ng_eqF, ng_eqG, n_ltT, n_leT, n_ltF, n_leF, n_eqF, n_eqG, ng_inj, zix_nI, zinR_nI, nI_add, ↓reduceIte, true_or, or_true, or_self, not_true, not_false, Nat.reduceAdd, l_s0g, l_s1g, l_t0g, List.tail_cons, List.tail_nil]
  refine x_without hw ?_
  simp (disch := first | assumption | omega) only [l_g0, l_gs, l_s0, l_s1, l_ss, l_sn0, l_sns, l_ki, l_kr, l_kl, l_ka, l_en, l_ei, l_er, t_I, t_R, t_W0, t_Wi, t_Wr, t_v0, t_v2, t_v3, i_p1, i_m1, t_k0, t_k1, k_some, k_none, true_and, and_true, ite_true, ite_false, Fin.isValue, l_t0, l_t1, l_ts, l_tn0, l_tns, l_el, t_L, t_Wl, t_v1, t_l0, t_l1, List.tail_cons, List.tail_nil, e_iconst, e_iload, e_iload_n_2, e_invs1_0, e_ishl, e_istore, e_land, e_lload_n_0, e_lload_n_3, e_lor, e_lreturn, e_lshl, e_lstore_n_3, e_lushr, b2_0, q2_0, zE2, o_0, o_1, o_2, a_2, w_2, o_3, a_3, w_3, o_4, o_5, a_5, w_5, o_6, o_7, a_7, w_7, o_8, o_9, a_9, w_9, o_10, o_11, a_11, w_11, o_12, o_13, a_13, w_13, o_14, o_15, o_16, a_16, w_16, o_17, a_17, w_17, o_18, a_18, w_18, o_19, a_19, w_19, o_20, a_20, w_20, o_21, o_22, a_22, w_22, o_23, o_24, a_24, w_24, o_25, a_25, w_25, o_50, o_51, a_51, w_51, o_52, a_52, w_52, o_53, a_53, w_53, o_54, a_54, w_54, o_55, a_55, w_55, o_56, a_56, w_56, o_57, a_57, w_57, o_58, a_58, w_58, o_59, a_59, w_59, o_60, a_60, w_60, o_61, a_61, w_61, o_62, a_62, w_62, o_63, a_63, w_63, o_64, a_64, w_64, o_rp, o_rs, a_rs, w_rs, r_0_0, r_0_1, r_0_2, r_0_3, r_0_4, r_0_5, r_0_6, r_0_7, r_0_12, r_1_3, r_4_0, r_4_1, r_6_0, r_8_0, r_10_2, r_12_2, r_14_0, r_14_1, r_14_2, r_14_3, r_14_4, r_14_5, r_15_2, r_21_0, r_23_0, r_50_1, r_50_5, r_50_6, r_50_7, r_50_8, r_50_10, r_50_11, r_50_12, r_50_13, r_50_14, r_50_17, r_50_18, r_50_21, r_50_23, r_rp, r_rs, h_Fs, h_FF, h_FI, h_FL, h_Is, h_II, h_IF, h_IL, h_Ls, h_LL, h_LF, h_LI, nI_ltT, nI_ltF, nI_leT, nI_leF, nI_eqT, nI_eqF, ng_ltT, ng_ltF, ng_leT, ng_leF, ng_eqF, ng_eqG, n_ltT, n_leT, n_ltF, n_leF, n_eqF, n_eqG, ng_inj, zix_nI, zinR_nI, nI_add, ↓reduceIte, true_or, or_true, or_self, not_true, not_false, Nat.reduceAdd, l_s0g, l_s1g, l_t0g, List.tail_cons, List.tail_nil, nx_s1]
  exact hQ
/-- it holds, or at one step from here by one of the first n ways -/
def zgr (p : Nat → Bool) (n d : Nat) : Bool := p d || !zga (fun w => !p (d ^^^ 2 ^ w)) n
theorem zgr_s (p : Nat → Bool) (n d : Nat) : zgr p (n + 1) d = (zgr p n d || p (d ^^^ 2 ^ n)) := by
  unfold zgr
  rw [zga_s]
  cases p d <;> cases zga (fun w => !p (d ^^^ 2 ^ w)) n <;> cases p (d ^^^ 2 ^ n) <;> rfl
theorem x_grown {X : zX} {H : zHp} {x : Int64} {n : Nat} {Q : Option Value → zHp → Prop} (hn : n ≤ 6) (hQ : ∀ r : Int64, (∀ d, d < 64 → zbit r d = zgr (zbit x) n d) → Q (some (.long r)) H) : zCall X 3 65 [.long x, .int (nI n)] H Q := by
  refine zgo_call 20 (by decide) (by decide +kernel) True.intro ?_
  simp (disch := first | assumption | omega) only [l_g0, l_gs, l_s0, l_s1, l_ss, l_sn0, l_sns, l_ki, l_kr, l_kl, l_ka, l_en, l_ei, l_er, t_I, t_R, t_W0, t_Wi, t_Wr, t_v0, t_v2, t_v3, i_p1, i_m1, t_k0, t_k1, k_some, k_none, true_and, and_true, ite_true, ite_false, Fin.isValue, l_t0, l_t1, l_ts, l_tn0, l_tns, l_el, t_L, t_Wl, t_v1, t_l0, t_l1, List.tail_cons, List.tail_nil, e_goto1, e_icmp_ge0, e_iconst, e_iinc, e_iload, e_iload_n_2, e_invs2_0, e_istore, e_lload_n_0, e_lload_n_3, e_lor, e_lreturn, e_lstore_n_3, e_nop1, b3_0, b3_1, b3_2, q3_0, q3_1, q3_2, zE3, o_0, o_1, o_2, a_2, w_2, o_3, a_3, w_3, o_4, o_5, a_5, w_5, o_6, o_7, a_7, w_7, o_8, o_9, a_9, w_9, o_10, o_11, a_11, w_11, o_12, o_13, a_13, w_13, o_14, o_15, o_16, a_16, w_16, o_17, a_17, w_17, o_18, a_18, w_18, o_19, a_19, w_19, o_20, a_20, w_20, o_21, o_22, a_22, w_22, o_23, o_24, a_24, w_24, o_25, a_25, w_25, o_50, o_51, a_51, w_51, o_52, a_52, w_52, o_53, a_53, w_53, o_54, a_54, w_54, o_55, a_55, w_55, o_56, a_56, w_56, o_57, a_57, w_57, o_58, a_58, w_58, o_59, a_59, w_59, o_60, a_60, w_60, o_61, a_61, w_61, o_62, a_62, w_62, o_63, a_63, w_63, o_64, a_64, w_64, o_rp, o_rs, a_rs, w_rs, r_0_0, r_0_1, r_0_2, r_0_3, r_0_4, r_0_5, r_0_6, r_0_7, r_0_12, r_1_3, r_4_0, r_4_1, r_6_0, r_8_0, r_10_2, r_12_2, r_14_0, r_14_1, r_14_2, r_14_3, r_14_4, r_14_5, r_15_2, r_21_0, r_23_0, r_50_1, r_50_5, r_50_6, r_50_7, r_50_8, r_50_10, r_50_11, r_50_12, r_50_13, r_50_14, r_50_17, r_50_18, r_50_21, r_50_23, r_rp, r_rs, h_Fs, h_FF, h_FI, h_FL, h_Is, h_II, h_IF, h_IL, h_Ls, h_LL, h_LF, h_LI, nI_ltT, nI_ltF, nI_leT, nI_leF, nI_eqT, nI_eqF, ng_ltT, ng_ltF, ng_leT, ng_leF, ng_eqF, ng_eqG, n_ltT, n_leT, n_ltF, n_leF, n_eqF, n_eqG, ng_inj, zix_nI, zinR_nI, nI_add, ↓reduceIte, true_or, or_true, or_self, not_true, not_false, Nat.reduceAdd, l_s0g, l_s1g, l_t0g, List.tail_cons, List.tail_nil]
  refine zfor (R := fun i H' => H' = H) (fun i H' => ∀ a : Int64, (∀ d, d < 64 → zbit a d = zgr (zbit x) i d) → zAt X 3 65 65 1 [.long x, .retAddr 0, .int (nI n), .long a, .retAddr 0, .int (nI i)] [] H' Q) n ?_ ?_ 0 H (Nat.zero_le _) rfl x (fun d hd => ?_)
  · rintro H' rfl a ha
    refine zgo_at 20 ?_
    simp (disch := first | assumption | omega) only [l_g0, l_gs, l_s0, l_s1, l_ss, l_sn0, l_sns, l_ki, l_kr, l_kl, l_ka, l_en, l_ei, l_er, t_I, t_R, t_W0, t_Wi, t_Wr, t_v0, t_v2, t_v3, i_p1, i_m1, t_k0, t_k1, k_some, k_none, true_and, and_true, ite_true, ite_false, Fin.isValue, l_t0, l_t1, l_ts, l_tn0, l_tns, l_el, t_L, t_Wl, t_v1, t_l0, t_l1, List.tail_cons, List.tail_nil, e_goto1, e_icmp_ge0, e_iconst, e_iinc, e_iload, e_iload_n_2, e_invs2_0, e_istore, e_lload_n_0, e_lload_n_3, e_lor, e_lreturn, e_lstore_n_3, e_nop1, b3_0, b3_1, b3_2, q3_0, q3_1, q3_2, zE3, o_0, o_1, o_2, a_2, w_2, o_3, a_3, w_3, o_4, o_5, a_5, w_5, o_6, o_7, a_7, w_7, o_8, o_9, a_9, w_9, o_10, o_11, a_11, w_11, o_12, o_13, a_13, w_13, o_14, o_15, o_16, a_16, w_16, o_17, a_17, w_17, o_18, a_18, w_18, o_19, a_19, w_19, o_20, a_20, w_20, o_21, o_22, a_22, w_22, o_23, o_24, a_24, w_24, o_25, a_25, w_25, o_50, o_51, a_51, w_51, o_52, a_52, w_52, o_53, a_53, w_53, o_54, a_54, w_54, o_55, a_55, w_55, o_56, a_56, w_56, o_57, a_57, w_57, o_58, a_58, w_58, o_59, a_59, w_59, o_60, a_60, w_60, o_61, a_61, w_61, o_62, a_62, w_62, o_63, a_63, w_63, o_64, a_64, w_64, o_rp, o_rs, a_rs, w_rs, r_0_0, r_0_1, r_0_2, r_0_3, r_0_4, r_0_5, r_0_6, r_0_7, r_0_12, r_1_3, r_4_0, r_4_1, r_6_0, r_8_0, r_10_2, r_12_2, r_14_0, r_14_1, r_14_2, r_14_3, r_14_4, r_14_5, r_15_2, r_21_0, r_23_0, r_50_1, r_50_5, r_50_6, r_50_7, r_50_8, r_50_10, r_50_11, r_50_12, r_50_13, r_50_14, r_50_17, r_50_18, r_50_21, r_50_23, r_rp, r_rs, h_Fs, h_FF, h_FI, h_FL, h_Is, h_II, h_IF, h_IL, h_Ls, h_LL, h_LF, h_LI, nI_ltT, nI_ltF, nI_leT, nI_leF, nI_eqT, nI_eqF, ng_ltT, ng_ltF, ng_leT, ng_leF, ng_eqF, ng_eqG, n_ltT, n_leT, n_ltF, n_leF, n_eqF, n_eqG, ng_inj, zix_nI, zinR_nI, nI_add, ↓reduceIte, true_or, or_true, or_self, not_true, not_false, Nat.reduceAdd, l_s0g, l_s1g, l_t0g, List.tail_cons, List.tail_nil]
    exact hQ a ha
  · rintro i H' hi rfl ih a ha
    refine zgo_at 20 ?_
    simp (disch := first | assumption | omega) only [l_g0, l_gs, l_s0, l_s1, l_ss, l_sn0, l_sns, l_ki, l_kr, l_kl, l_ka, l_en, l_ei, l_er, t_I, t_R, t_W0, t_Wi, t_Wr, t_v0, t_v2, t_v3, i_p1, i_m1, t_k0, t_k1, k_some, k_none, true_and, and_true, ite_true, ite_false, Fin.isValue, l_t0, l_t1, l_ts, l_tn0, l_tns, l_el, t_L, t_Wl, t_v1, t_l0, t_l1, List.tail_cons, List.tail_nil, e_goto1, e_icmp_ge0, e_iconst, e_iinc, e_iload, e_iload_n_2, e_invs2_0, e_istore, e_lload_n_0, e_lload_n_3, e_lor, e_lreturn, e_lstore_n_3, e_nop1, b3_0, b3_1, b3_2, q3_0, q3_1, q3_2, zE3, o_0, o_1, o_2, a_2, w_2, o_3, a_3, w_3, o_4, o_5, a_5, w_5, o_6, o_7, a_7, w_7, o_8, o_9, a_9, w_9, o_10, o_11, a_11, w_11, o_12, o_13, a_13, w_13, o_14, o_15, o_16, a_16, w_16, o_17, a_17, w_17, o_18, a_18, w_18, o_19, a_19, w_19, o_20, a_20, w_20, o_21, o_22, a_22, w_22, o_23, o_24, a_24, w_24, o_25, a_25, w_25, o_50, o_51, a_51, w_51, o_52, a_52, w_52, o_53, a_53, w_53, o_54, a_54, w_54, o_55, a_55, w_55, o_56, a_56, w_56, o_57, a_57, w_57, o_58, a_58, w_58, o_59, a_59, w_59, o_60, a_60, w_60, o_61, a_61, w_61, o_62, a_62, w_62, o_63, a_63, w_63, o_64, a_64, w_64, o_rp, o_rs, a_rs, w_rs, r_0_0, r_0_1, r_0_2, r_0_3, r_0_4, r_0_5, r_0_6, r_0_7, r_0_12, r_1_3, r_4_0, r_4_1, r_6_0, r_8_0, r_10_2, r_12_2, r_14_0, r_14_1, r_14_2, r_14_3, r_14_4, r_14_5, r_15_2, r_21_0, r_23_0, r_50_1, r_50_5, r_50_6, r_50_7, r_50_8, r_50_10, r_50_11, r_50_12, r_50_13, r_50_14, r_50_17, r_50_18, r_50_21, r_50_23, r_rp, r_rs, h_Fs, h_FF, h_FI, h_FL, h_Is, h_II, h_IF, h_IL, h_Ls, h_LL, h_LF, h_LI, nI_ltT, nI_ltF, nI_leT, nI_leF, nI_eqT, nI_eqF, ng_ltT, ng_ltF, ng_leT, ng_leF, ng_eqF, ng_eqG, n_ltT, n_leT, n_ltF, n_leF, n_eqF, n_eqG, ng_inj, zix_nI, zinR_nI, nI_add, ↓reduceIte, true_or, or_true, or_self, not_true, not_false, Nat.reduceAdd, l_s0g, l_s1g, l_t0g, List.tail_cons, List.tail_nil]
    refine x_stepped (by omega) (fun r hr => ?_)
    simp (disch := first | assumption | omega) only [l_g0, l_gs, l_s0, l_s1, l_ss, l_sn0, l_sns, l_ki, l_kr, l_kl, l_ka, l_en, l_ei, l_er, t_I, t_R, t_W0, t_Wi, t_Wr, t_v0, t_v2, t_v3, i_p1, i_m1, t_k0, t_k1, k_some, k_none, true_and, and_true, ite_true, ite_false, Fin.isValue, l_t0, l_t1, l_ts, l_tn0, l_tns, l_el, t_L, t_Wl, t_v1, t_l0, t_l1, List.tail_cons, List.tail_nil, e_goto1, e_icmp_ge0, e_iconst, e_iinc, e_iload, e_iload_n_2, e_invs2_0, e_istore, e_lload_n_0, e_lload_n_3, e_lor, e_lreturn, e_lstore_n_3, e_nop1, b3_0, b3_1, b3_2, q3_0, q3_1, q3_2, zE3, o_0, o_1, o_2, a_2, w_2, o_3, a_3, w_3, o_4, o_5, a_5, w_5, o_6, o_7, a_7, w_7, o_8, o_9, a_9, w_9, o_10, o_11, a_11, w_11, o_12, o_13, a_13, w_13, o_14, o_15, o_16, a_16, w_16, o_17, a_17, w_17, o_18, a_18, w_18, o_19, a_19, w_19, o_20, a_20, w_20, o_21, o_22, a_22, w_22, o_23, o_24, a_24, w_24, o_25, a_25, w_25, o_50, o_51, a_51, w_51, o_52, a_52, w_52, o_53, a_53, w_53, o_54, a_54, w_54, o_55, a_55, w_55, o_56, a_56, w_56, o_57, a_57, w_57, o_58, a_58, w_58, o_59, a_59, w_59, o_60, a_60, w_60, o_61, a_61, w_61, o_62, a_62, w_62, o_63, a_63, w_63, o_64, a_64, w_64, o_rp, o_rs, a_rs, w_rs, r_0_0, r_0_1, r_0_2, r_0_3, r_0_4, r_0_5, r_0_6, r_0_7, r_0_12, r_1_3, r_4_0, r_4_1, r_6_0, r_8_0, r_10_2, r_12_2, r_14_0, r_14_1, r_14_2, r_14_3, r_14_4, r_14_5, r_15_2, r_21_0, r_23_0, r_50_1, r_50_5, r_50_6, r_50_7, r_50_8, r_50_10, r_50_11, r_50_12, r_50_13, r_50_14, r_50_17, r_50_18, r_50_21, r_50_23, r_rp, r_rs, h_Fs, h_FF, h_FI, h_FL, h_Is, h_II, h_IF, h_IL, h_Ls, h_LL, h_LF, h_LI, nI_ltT, nI_ltF, nI_leT, nI_leF, nI_eqT, nI_eqF, ng_ltT, ng_ltF, ng_leT, ng_leF, ng_eqF, ng_eqG, n_ltT, n_leT, n_ltF, n_leF, n_eqF, n_eqG, ng_inj, zix_nI, zinR_nI, nI_add, ↓reduceIte, true_or, or_true, or_self, not_true, not_false, Nat.reduceAdd, l_s0g, l_s1g, l_t0g, List.tail_cons, List.tail_nil]
    exact ih H' rfl _ (fun d hd => by rw [zbit_or, ha d hd, hr d hd, zgr_s])
  · unfold zgr
    simp [zga]
theorem x_near {X : zX} {H : zHp} {S : zU} {c r : Nat} {Q : Option Value → zHp → Prop} (hI : zIX H S) (hc : c < 64) (hr : r < 3) (hQ : ∀ v : Int64, (∀ d, d < 64 → zbit v d = zball r c d) → Q (some (.long v)) H) : zCall X 16 65 [.ref 1, .int (nI c), .int (nI r)] H Q := by
  have hR := hI.1
  have hQ := hQ _ (hI.2.2.1 r c hr hc)
  rw [Nat.mul_comm] at hQ
  refine zgo_call 20 (by decide) (by decide +kernel) True.intro ?_
  simp (disch := first | assumption | omega) only [l_g0, l_gs, l_s0, l_s1, l_ss, l_sn0, l_sns, l_ki, l_kr, l_kl, l_ka, l_en, l_ei, l_er, t_I, t_R, t_W0, t_Wi, t_Wr, t_v0, t_v2, t_v3, i_p1, i_m1, t_k0, t_k1, k_some, k_none, true_and, and_true, ite_true, ite_false, Fin.isValue, l_t0, l_t1, l_ts, l_tn0, l_tns, l_el, t_L, t_Wl, t_v1, t_l0, t_l1, List.tail_cons, List.tail_nil, e_aload_n_0, e_arraylength0, e_bipush, e_getfield, e_goto0, e_iadd, e_icmp_ge0, e_if_lt0, e_iload_n_1, e_iload_n_2, e_iload_n_3, e_imul, e_istore_n_3, e_laload0, e_lconst, e_lreturn, e_nop0, b16_0, b16_1, b16_2, q16_0, q16_1, q16_2, zE16, o_0, o_1, o_2, a_2, w_2, o_3, a_3, w_3, o_4, o_5, a_5, w_5, o_6, o_7, a_7, w_7, o_8, o_9, a_9, w_9, o_10, o_11, a_11, w_11, o_12, o_13, a_13, w_13, o_14, o_15, o_16, a_16, w_16, o_17, a_17, w_17, o_18, a_18, w_18, o_19, a_19, w_19, o_20, a_20, w_20, o_21, o_22, a_22, w_22, o_23, o_24, a_24, w_24, o_25, a_25, w_25, o_50, o_51, a_51, w_51, o_52, a_52, w_52, o_53, a_53, w_53, o_54, a_54, w_54, o_55, a_55, w_55, o_56, a_56, w_56, o_57, a_57, w_57, o_58, a_58, w_58, o_59, a_59, w_59, o_60, a_60, w_60, o_61, a_61, w_61, o_62, a_62, w_62, o_63, a_63, w_63, o_64, a_64, w_64, o_rp, o_rs, a_rs, w_rs, r_0_0, r_0_1, r_0_2, r_0_3, r_0_4, r_0_5, r_0_6, r_0_7, r_0_12, r_1_3, r_4_0, r_4_1, r_6_0, r_8_0, r_10_2, r_12_2, r_14_0, r_14_1, r_14_2, r_14_3, r_14_4, r_14_5, r_15_2, r_21_0, r_23_0, r_50_1, r_50_5, r_50_6, r_50_7, r_50_8, r_50_10, r_50_11, r_50_12, r_50_13, r_50_14, r_50_17, r_50_18, r_50_21, r_50_23, r_rp, r_rs, h_Fs, h_FF, h_FI, h_FL, h_Is, h_II, h_IF, h_IL, h_Ls, h_LL, h_LF, h_LI, nI_ltT, nI_ltF, nI_leT, nI_leF, nI_eqT, nI_eqF, ng_ltT, ng_ltF, ng_leT, ng_leF, ng_eqF, ng_eqG, n_ltT, n_leT, n_ltF, n_leF, n_eqF, n_eqG, ng_inj, zix_nI, zinR_nI, nI_add, ↓reduceIte, true_or, or_true, or_self, not_true, not_false, Nat.reduceAdd, l_s0g, l_s1g, l_t0g, List.tail_cons, List.tail_nil, nI_mul]
  exact hQ
theorem ng_mul {a b : Nat} : -nI a * nI b = -nI (a * b) := by
  rw [Int32.neg_mul, nI_mul]
theorem ng_add {a b : Nat} (h : b ≤ a) : -nI a + nI b = -nI (a - b) := by
  have : nI a = nI (a - b) + nI b := by rw [nI_add]; congr 1; omega
  rw [this, Int32.neg_add, Int32.sub_eq_add_neg, Int32.add_assoc, Int32.add_left_neg, Int32.add_zero]
theorem x_near_n {X : zX} {H : zHp} {c r : Nat} {Q : Option Value → zHp → Prop} (hc : c < 64) (hr : 0 < r ∧ r < 1000) (hQ : Q (some (.long (lN 0))) H) : zCall X 16 65 [.ref 1, .int (nI c), .int (-nI r)] H Q := by
  refine zgo_call 20 (by decide) (by decide +kernel) True.intro ?_
  have e : (-nI (r * 64 - c) < nI 0) = True := ng_ltT (by omega) (by omega) (by omega)
  simp (disch := first | assumption | omega) only [l_g0, l_gs, l_s0, l_s1, l_ss, l_sn0, l_sns, l_ki, l_kr, l_kl, l_ka, l_en, l_ei, l_er, t_I, t_R, t_W0, t_Wi, t_Wr, t_v0, t_v2, t_v3, i_p1, i_m1, t_k0, t_k1, k_some, k_none, true_and, and_true, ite_true, ite_false, Fin.isValue, l_t0, l_t1, l_ts, l_tn0, l_tns, l_el, t_L, t_Wl, t_v1, t_l0, t_l1, List.tail_cons, List.tail_nil, e_aload_n_0, e_arraylength0, e_bipush, e_getfield, e_goto0, e_iadd, e_icmp_ge0, e_if_lt0, e_iload_n_1, e_iload_n_2, e_iload_n_3, e_imul, e_istore_n_3, e_laload0, e_lconst, e_lreturn, e_nop0, b16_0, b16_1, b16_2, q16_0, q16_1, q16_2, zE16, o_0, o_1, o_2, a_2, w_2, o_3, a_3, w_3, o_4, o_5, a_5, w_5, o_6, o_7, a_7, w_7, o_8, o_9, a_9, w_9, o_10, o_11, a_11, w_11, o_12, o_13, a_13, w_13, o_14, o_15, o_16, a_16, w_16, o_17, a_17, w_17, o_18, a_18, w_18, o_19, a_19, w_19, o_20, a_20, w_20, o_21, o_22, a_22, w_22, o_23, o_24, a_24, w_24, o_25, a_25, w_25, o_50, o_51, a_51, w_51, o_52, a_52, w_52, o_53, a_53, w_53, o_54, a_54, w_54, o_55, a_55, w_55, o_56, a_56, w_56, o_57, a_57, w_57, o_58, a_58, w_58, o_59, a_59, w_59, o_60, a_60, w_60, o_61, a_61, w_61, o_62, a_62, w_62, o_63, a_63, w_63, o_64, a_64, w_64, o_rp, o_rs, a_rs, w_rs, r_0_0, r_0_1, r_0_2, r_0_3, r_0_4, r_0_5, r_0_6, r_0_7, r_0_12, r_1_3, r_4_0, r_4_1, r_6_0, r_8_0, r_10_2, r_12_2, r_14_0, r_14_1, r_14_2, r_14_3, r_14_4, r_14_5, r_15_2, r_21_0, r_23_0, r_50_1, r_50_5, r_50_6, r_50_7, r_50_8, r_50_10, r_50_11, r_50_12, r_50_13, r_50_14, r_50_17, r_50_18, r_50_21, r_50_23, r_rp, r_rs, h_Fs, h_FF, h_FI, h_FL, h_Is, h_II, h_IF, h_IL, h_Ls, h_LL, h_LF, h_LI, nI_ltT, nI_ltF, nI_leT, nI_leF, nI_eqT, nI_eqF, ng_ltT, ng_ltF, ng_leT, ng_leF, ng_eqF, ng_eqG, n_ltT, n_leT, n_ltF, n_leF, n_eqF, n_eqG, ng_inj, zix_nI, zinR_nI, nI_add, ↓reduceIte, true_or, or_true, or_self, not_true, not_false, Nat.reduceAdd, l_s0g, l_s1g, l_t0g, List.tail_cons, List.tail_nil, ng_mul, ng_add, e]
  exact hQ
theorem zall_b : ∀ D, D < 7 → 1 ≤ D → ∀ d, d < 64 → zbit (((-lN 1).toUInt64 >>> ((nI (64 - 2 ^ D)).toInt64.toUInt64 &&& Int64.toUInt64 63)).toInt64) d = decide (d < 2 ^ D) := by
  intro D hD h1 d hd
  have h3 : 2 ≤ 2 ^ D := by
    have : 2 ^ 1 ≤ 2 ^ D := Nat.pow_le_pow_right (by decide) h1
    omega
  rw [zbit_ushr _ (by omega)]
  by_cases h : d < 2 ^ D
  · rw [decide_eq_true h]
    by_cases h2 : 64 - 2 ^ D + d < 64
    · exact zbit_m1 h2
    · have h6 : 2 ^ D ≤ 2 ^ 6 := Nat.pow_le_pow_right (by decide) (by omega)
      omega
  · rw [decide_eq_false h]
    have h6 : 2 ^ D ≤ 2 ^ 6 := Nat.pow_le_pow_right (by decide) (by omega)
    exact zbit_hi (by omega)
theorem x_allCorners {X : zX} {H : zHp} {S : zU} {Q : Option Value → zHp → Prop} (hI : zIX H S) (hS : zUok S) (hQ : ∀ v : Int64, (∀ d, d < 64 → zbit v d = decide (d < 2 ^ S.1.1)) → Q (some (.long v)) H) : zCall X 11 65 [.ref 1] H Q := by
  have g := hI.2.1
  have ⟨h1, h64, h6⟩ := zD64 hS
  have hQ := hQ _ (zall_b S.1.1 (by omega) hS.1.1)
  refine zgo_call 20 (by decide) (by decide +kernel) True.intro ?_
  simp (disch := first | assumption | omega) only [l_g0, l_gs, l_s0, l_s1, l_ss, l_sn0, l_sns, l_ki, l_kr, l_kl, l_ka, l_en, l_ei, l_er, t_I, t_R, t_W0, t_Wi, t_Wr, t_v0, t_v2, t_v3, i_p1, i_m1, t_k0, t_k1, k_some, k_none, true_and, and_true, ite_true, ite_false, Fin.isValue, l_t0, l_t1, l_ts, l_tn0, l_tns, l_el, t_L, t_Wl, t_v1, t_l0, t_l1, List.tail_cons, List.tail_nil, e_aload_n_0, e_bipush, e_getfield, e_iconst, e_ishl, e_isub, e_ldc2_w, e_lreturn, e_lushr, b11_0, q11_0, zE11, o_0, o_1, o_2, a_2, w_2, o_3, a_3, w_3, o_4, o_5, a_5, w_5, o_6, o_7, a_7, w_7, o_8, o_9, a_9, w_9, o_10, o_11, a_11, w_11, o_12, o_13, a_13, w_13, o_14, o_15, o_16, a_16, w_16, o_17, a_17, w_17, o_18, a_18, w_18, o_19, a_19, w_19, o_20, a_20, w_20, o_21, o_22, a_22, w_22, o_23, o_24, a_24, w_24, o_25, a_25, w_25, o_50, o_51, a_51, w_51, o_52, a_52, w_52, o_53, a_53, w_53, o_54, a_54, w_54, o_55, a_55, w_55, o_56, a_56, w_56, o_57, a_57, w_57, o_58, a_58, w_58, o_59, a_59, w_59, o_60, a_60, w_60, o_61, a_61, w_61, o_62, a_62, w_62, o_63, a_63, w_63, o_64, a_64, w_64, o_rp, o_rs, a_rs, w_rs, r_0_0, r_0_1, r_0_2, r_0_3, r_0_4, r_0_5, r_0_6, r_0_7, r_0_12, r_1_3, r_4_0, r_4_1, r_6_0, r_8_0, r_10_2, r_12_2, r_14_0, r_14_1, r_14_2, r_14_3, r_14_4, r_14_5, r_15_2, r_21_0, r_23_0, r_50_1, r_50_5, r_50_6, r_50_7, r_50_8, r_50_10, r_50_11, r_50_12, r_50_13, r_50_14, r_50_17, r_50_18, r_50_21, r_50_23, r_rp, r_rs, h_Fs, h_FF, h_FI, h_FL, h_Is, h_II, h_IF, h_IL, h_Ls, h_LL, h_LF, h_LI, nI_ltT, nI_ltF, nI_leT, nI_leF, nI_eqT, nI_eqF, ng_ltT, ng_ltF, ng_leT, ng_leF, ng_eqF, ng_eqG, n_ltT, n_leT, n_ltF, n_leF, n_eqF, n_eqG, ng_inj, zix_nI, zinR_nI, nI_add, ↓reduceIte, true_or, or_true, or_self, not_true, not_false, Nat.reduceAdd, l_s0g, l_s1g, l_t0g, List.tail_cons, List.tail_nil, g, nx_s1, nI_sub]
  exact hQ
/-- whether it is among the first n corners -/
def zin (w : List Nat) (n d : Nat) : Bool := (zff (fun i => decide (zcor w i = d)) n).isSome
theorem zin_iff {w : List Nat} {n d : Nat} : zin w n d = true ↔ ∃ i, i < n ∧ zcor w i = d := by
  unfold zin
  constructor
  · intro h
    cases h2 : zff (fun i => decide (zcor w i = d)) n with
    | none => rw [h2] at h; cases h
    | some i =>
      have := zff_some h2
      exact ⟨i, this.1, of_decide_eq_true this.2.1⟩
  · rintro ⟨i, hi, e⟩
    cases h2 : zff (fun i => decide (zcor w i = d)) n with
    | none =>
      have := of_decide_eq_false (zff_none.mp h2 i hi)
      exact absurd e this
    | some i => rfl
theorem zcst_b {w : List Nat} (hw : ∀ i, zcor w i < 64) : ∀ n d, d < 64 → zbit (zcst w n) d = zin w n d
  | 0, d, _ => zbit_0 d
  | n + 1, d, hd => by
    show zbit (zcst w n ||| lN 1 <<< ((nI (zcor w n)).toInt64 &&& 63)) d = _
    rw [zbit_or, zcst_b hw n d hd, zone_shl _ (hw n) d hd, Bool.eq_iff_iff, Bool.or_eq_true, zin_iff, zin_iff, decide_eq_true_eq]
    constructor
    · rintro (⟨i, hi, e⟩ | e)
      · exact ⟨i, by omega, e⟩
      · exact ⟨n, by omega, e.symm⟩
    · rintro ⟨i, hi, e⟩
      rcases Nat.lt_or_ge i n with q | q
      · exact Or.inl ⟨i, q, e⟩
      · have : i = n := by omega
        subst this
        exact Or.inr e.symm
/-- where the row ends as it began, its end is no new corner -/
theorem zin_ring {w : List Nat} {n : Nat} (hn : 0 < n) (h : zcor w n = 0) (d : Nat) : zin w (n + 1) d = zin w n d := by
  rw [Bool.eq_iff_iff, zin_iff, zin_iff]
  constructor
  · rintro ⟨i, hi, e⟩
    rcases Nat.lt_or_ge i n with q | q
    · exact ⟨i, q, e⟩
    · have : i = n := by omega
      subst this
      exact ⟨0, hn, by rw [← e, h]; rfl⟩
  · rintro ⟨i, hi, e⟩
    exact ⟨i, by omega, e⟩
theorem zff_ring {w : List Nat} {n : Nat} (hn : 0 < n) (h : zcor w n = 0) (d : Nat) : zff (fun i => decide (zcor w i = d)) (n + 1) = zff (fun i => decide (zcor w i = d)) n := by
  cases h2 : zff (fun i => decide (zcor w i = d)) n with
  | some i =>
    have := zff_some h2
    exact zff_of (by omega) this.2.1 this.2.2
  | none =>
    refine zff_none.mpr (fun i hi => ?_)
    rcases Nat.lt_or_ge i n with q | q
    · exact zff_none.mp h2 i q
    · have : i = n := by omega
      subst this
      have h3 := zff_none.mp h2 0 hn
      have h4 := of_decide_eq_false h3
      refine decide_eq_false (fun e => h4 ?_)
      rw [← e, h]; rfl
/-! counting -/
theorem fb_one (p : Nat → Bool) {e : Nat} : ∀ {n : Nat}, e < n → fb_ct (fun d => p d && decide (d = e)) n = if p e then 1 else 0
  | n + 1, h => by
    rw [fb_ct_succ]
    by_cases h2 : e = n
    · subst h2
      have : fb_ct (fun d => p d && decide (d = e)) e = 0 := fb_ct_zero.mpr (fun k hk => by rw [decide_eq_false (by omega), Bool.and_false])
      rw [this, decide_eq_true rfl, Bool.and_true, Nat.zero_add]
    · rw [fb_one p (by omega), decide_eq_false (by omega), Bool.and_false]
      simp
theorem fb_more (p q : Nat → Bool) {e n : Nat} (h : e < n) (hq : q e = false) : fb_ct (fun d => p d && (q d || decide (d = e))) n = fb_ct (fun d => p d && q d) n + if p e then 1 else 0 := by
  rw [← fb_one p h, ← fb_ct_or]
  · refine fb_ct_cong (fun k _ => ?_)
    rw [Bool.and_or_distrib_left]
  · rintro k hk ⟨h1, h2⟩
    rw [Bool.and_eq_true] at h1 h2
    have e2 := of_decide_eq_true h2.2
    subst e2
    rw [hq] at h1
    cases h1.2
def zb1s (c d n : Nat) : Bool := decide (d = c) || !zga (fun w => !decide (d = c ^^^ 2 ^ w)) n
theorem zball_1 : ∀ c, c < 64 → ∀ d, d < 64 → zball 1 c d = zb1s c d 6 := by decide +kernel
theorem zxw_ne : ∀ c, c < 64 → ∀ w, w < 6 → c ^^^ 2 ^ w ≠ c ∧ ∀ v, v < w → c ^^^ 2 ^ w ≠ c ^^^ 2 ^ v := by decide +kernel
theorem zb1_new {c n : Nat} (hc : c < 64) (h : n < 6) : zb1s c (c ^^^ 2 ^ n) n = false := by
  have ⟨h1, h2⟩ := zxw_ne c hc n h
  unfold zb1s
  rw [decide_eq_false h1, Bool.false_or, Bool.not_eq_false']
  refine zga_iff.mpr (fun v hv => ?_)
  rw [decide_eq_false (h2 v hv)]
  rfl
theorem zb1s_s (c d n : Nat) : zb1s c d (n + 1) = (zb1s c d n || decide (d = c ^^^ 2 ^ n)) := by
  unfold zb1s
  rw [zga_s]
  cases decide (d = c) <;> cases zga (fun w => !decide (d = c ^^^ 2 ^ w)) n <;> cases decide (d = c ^^^ 2 ^ n) <;> rfl
theorem zb1_count (p : Nat → Bool) {c : Nat} (hc : c < 64) : ∀ n, n ≤ 6 → fb_ct (fun d => p d && zb1s c d n) 64 = (if p c then 1 else 0) + fb_ct (fun w => p (c ^^^ 2 ^ w)) n
  | 0, _ => by
    have e := fb_one p (n := 64) hc
    show _ = (if p c then 1 else 0) + 0
    rw [Nat.add_zero, ← e]
    exact fb_ct_cong (fun k _ => by
      unfold zb1s
      rw [show zga (fun w => !decide (k = c ^^^ 2 ^ w)) 0 = true from rfl, Bool.not_true, Bool.or_false])
  | n + 1, h => by
    have ih := zb1_count p hc n (by omega)
    have m := fb_more p (fun d => zb1s c d n) (e := c ^^^ 2 ^ n) (n := 64) (zx_w (by omega) hc) (zb1_new hc (by omega))
    show _ = (if p c then 1 else 0) + (fb_ct (fun w => p (c ^^^ 2 ^ w)) n + if p (c ^^^ 2 ^ n) then 1 else 0)
    rw [← Nat.add_assoc, ← ih, ← m]
    exact fb_ct_cong (fun k _ => by rw [zb1s_s])
