/-! the seeker enters a corner; whether a ring closes -/
theorem x_shut_any {X : zX} {H : zHp} {S : zU} {a : Int32} (v : Int64) {Q : Option Value → zHp → Prop} (hI : zIX H S) (h : (∃ r, (0 < r ∧ r < 1000) ∧ a = -nI r ∧ v = S.1.2.2) ∨ ∃ i, i < 65 ∧ a = nI i ∧ v = H.2.2 19 i) (hQ : Q (some (.long v)) H) : zCall X 55 65 [.ref 14, .int a] H Q := by
  rcases h with ⟨r, hr, rfl, rfl⟩ | ⟨i, hi, rfl, rfl⟩
  · exact x_shut_b hI hr hQ
  · exact x_shut_i hI hi hQ
theorem x_near_any {X : zX} {H : zHp} {S : zU} {ring : Bool} {a : Int32} {s : Nat} {w : List Nat} (f : Nat → Bool) {Q : Option Value → zHp → Prop} (hI : zIX H S) (hS : zUok S) (hs : s < 3) (h6 : H.1 14 6 = .int (zb1 ring)) (h : (∃ r, (0 < r ∧ r < 1000) ∧ a = -nI r ∧ ∀ d, d < 64 → f d = false) ∨ ∃ i, i < 65 ∧ a = nI i ∧ zcor w i < 64 ∧ H.2.1 17 i = nI (zcor w i) ∧ ∀ d, d < 64 → f d = zne S.1.2.1 ring w i s d) (hQ : ∀ r : Int64, (∀ d, d < 64 → zbit r d = f d) → Q (some (.long r)) H) : zCall X 56 65 [.ref 14, .int a, .int (nI s)] H Q := by
  rcases h with ⟨r, hr, rfl, hf⟩ | ⟨i, hi, rfl, hc, e, hf⟩
  · exact x_near_b hr (hQ _ (fun d hd => by rw [zbit_0, hf d hd]))
  · exact x_tooNear hI hS hc hi hs h6 e (fun r hr => hQ r (fun d hd => by rw [hr d hd, hf d hd]))
theorem zshu_s {k : Nat} {B : Int64} {ring : Bool} {w : List Nat} {n d : Nat} : zshu k B ring w (n + 1) d = (zshu k B ring w n d || zne k ring w n (k - 1) d) := by
  unfold zshu
  rw [zga_s]
  cases zbit B d <;> cases zga (fun i => !zne k ring w i (k - 1) d) n <;> cases zne k ring w n (k - 1) d <;> rfl
theorem zscX_sm {H H' : zHp} {T : Nat → Prop} (hs : zsm T H H') (hR : zRf H') (hT : ∀ a, T a → 4 ≤ a ∧ a ≤ 20) : zscX H H' := ⟨zsm_wk hs hT, hR⟩
theorem x_enter {X : zX} {H : zHp} {S : zU} {ring : Bool} {c g0 n : Nat} {w : List Nat} {Q : Option Value → zHp → Prop} (hI : zIX H S) (hS : zUok S) (hw : ∀ x ∈ w, x < 6) (hn : n ≤ 64) (hg0 : g0 < 100) (h6 : H.1 14 6 = .int (zb1 ring)) (hl : H.1 15 1 = .int (nI n)) (hc : c = zcor w n) (hgr : min g0 (S.1.1 - 1) = zgrt S.1.1 S.1.2.2 w n) (ha : zSa H S.1.1 S.1.2.1 S.1.2.2 ring w n)
    (hQ : ∀ H', zsm (fun a => 17 ≤ a ∧ a ≤ 20) H H' → zSa H' S.1.1 S.1.2.1 S.1.2.2 ring w (n + 1) → Q none H') : zCall X 54 65 [.ref 14, .int (nI c), .int (nI g0)] H Q := by
  subst hc
  have hR := hI.1
  have g := hI.2.1
  have hk := hS.1.2.2
  have hd1 := hS.1.1
  have hd := hS.1.2.1
  have hcl := zcor_lt6 hw
  have hmin : zmin (nI g0) (nI (S.1.1 - 1)) = nI (zgrt S.1.1 S.1.2.2 w n) := by
    rw [zmin_n (by omega) (by omega), hgr]
  refine zgo_call 20 (by decide) (by decide +kernel) True.intro ?_
  simp (disch := first | assumption | omega) only [l_g0, l_gs, l_s0, l_s1, l_ss, l_sn0, l_sns, l_ki, l_kr, l_kl, l_ka, l_en, l_ei, l_er, t_I, t_R, t_W0, t_Wi, t_Wr, t_v0, t_v2, t_v3, i_p1, i_m1, t_k0, t_k1, k_some, k_none, true_and, and_true, ite_true, ite_false, Fin.isValue, l_t0, l_t1, l_ts, l_tn0, l_tns, l_el, t_L, t_Wl, t_v1, t_l0, t_l1, List.tail_cons, List.tail_nil, e_aload_n_0, e_arraylength0, e_getfield, e_goto1N, e_iadd, e_iastore, e_icmp_ge0N, e_icmp_lt0N, e_iconst, e_iinc, e_iload, e_iload_n_1, e_iload_n_2, e_iload_n_3, e_invv1_1, e_invv2_0, e_invv3_0, e_ireturn, e_istore, e_istore_n_3, e_isub, e_lastore, e_lload, e_lor, e_lstore, e_min, e_nop1N, e_return, b36_0, b54_0, b54_1, b54_2, b54_3, b8_0, b9_0, ci36, ci55, ci56, ci8, ci9, ml36, ml8, ml9, q36_0, q54_0, q54_1, q54_2, q54_3, q8_0, q9_0, zE54, zE36, zE9, zE8, o_0, o_1, o_2, a_2, w_2, o_3, a_3, w_3, o_4, o_5, a_5, w_5, o_6, o_7, a_7, w_7, o_8, o_9, a_9, w_9, o_10, o_11, a_11, w_11, o_12, o_13, a_13, w_13, o_14, o_15, o_16, a_16, w_16, o_17, a_17, w_17, o_18, a_18, w_18, o_19, a_19, w_19, o_20, a_20, w_20, o_21, o_22, a_22, w_22, o_23, o_24, a_24, w_24, o_25, a_25, w_25, o_50, o_51, a_51, w_51, o_52, a_52, w_52, o_53, a_53, w_53, o_54, a_54, w_54, o_55, a_55, w_55, o_56, a_56, w_56, o_57, a_57, w_57, o_58, a_58, w_58, o_59, a_59, w_59, o_60, a_60, w_60, o_61, a_61, w_61, o_62, a_62, w_62, o_63, a_63, w_63, o_64, a_64, w_64, o_rp, o_rs, a_rs, w_rs, r_0_0, r_0_1, r_0_2, r_0_3, r_0_4, r_0_5, r_0_6, r_0_7, r_0_12, r_1_3, r_4_0, r_4_1, r_6_0, r_8_0, r_10_2, r_12_2, r_14_0, r_14_1, r_14_2, r_14_3, r_14_4, r_14_5, r_15_2, r_21_0, r_23_0, r_50_1, r_50_5, r_50_6, r_50_7, r_50_8, r_50_10, r_50_11, r_50_12, r_50_13, r_50_14, r_50_17, r_50_18, r_50_21, r_50_23, r_rp, r_rs, h_Fs, h_FF, h_FI, h_FL, h_Is, h_II, h_IF, h_IL, h_Ls, h_LL, h_LF, h_LI, nI_ltT, nI_ltF, nI_leT, nI_leF, nI_eqT, nI_eqF, ng_ltT, ng_ltF, ng_leT, ng_leF, ng_eqF, ng_eqG, n_ltT, n_leT, n_ltF, n_leF, n_eqF, n_eqG, ng_inj, zix_nI, zinR_nI, nI_add, ↓reduceIte, true_or, or_true, or_self, not_true, not_false, Nat.reduceAdd, l_s0g, l_s1g, l_t0g, List.tail_cons, List.tail_nil, hl, g, nI_sub, hmin]
  -- the first two cells
  have s1 : zsm (fun a => 17 ≤ a ∧ a ≤ 20) H (zsI (zsI H 17 n (nI (zcor w n))) 18 n (nI (zgrt S.1.1 S.1.2.2 w n))) := zsm_I (zsm_I zsm_rf (by decide)) (by decide)
  have hI1 := zscX_IX hI (zscX_sm s1 hR (fun a h => by omega))
  have p17 : ∀ i, i ≤ n → (zsI (zsI H 17 n (nI (zcor w n))) 18 n (nI (zgrt S.1.1 S.1.2.2 w n))).2.1 17 i = nI (zcor w i) := fun i hi => by
    rw [h_II _ _ _ _ _ _ (by omega)]
    by_cases e : i = n
    · subst e; rw [h_Is]
    · rw [h_II _ _ _ _ _ _ (by omega)]
      exact (ha i (by omega)).1
  obtain ⟨sh0, hsh0, hb0⟩ : ∃ sh0 : Int64, ((∃ r, (0 < r ∧ r < 1000) ∧ nI n - nI 1 = -nI r ∧ sh0 = S.1.2.2) ∨ ∃ i, i < 65 ∧ nI n - nI 1 = nI i ∧ sh0 = (zsI (zsI H 17 n (nI (zcor w n))) 18 n (nI (zgrt S.1.1 S.1.2.2 w n))).2.2 19 i) ∧ ∀ d, d < 64 → zbit sh0 d = zshu S.1.2.1 S.1.2.2 ring w n d := by
    rcases Nat.eq_zero_or_pos n with e | e
    · subst e
      refine ⟨S.1.2.2, Or.inl ⟨1, by decide, by decide, rfl⟩, fun d hd => ?_⟩
      unfold zshu zga
      rw [Bool.not_true, Bool.or_false]
    · refine ⟨_, Or.inr ⟨n - 1, by omega, nI_sub e, rfl⟩, fun d hd => ?_⟩
      have := (ha (n - 1) (by omega)).2.2.1 d hd
      rw [Nat.sub_add_cancel e] at this
      exact this
  refine x_shut_any sh0 hI1 hsh0 ?_
  simp (disch := first | assumption | omega) only [l_g0, l_gs, l_s0, l_s1, l_ss, l_sn0, l_sns, l_ki, l_kr, l_kl, l_ka, l_en, l_ei, l_er, t_I, t_R, t_W0, t_Wi, t_Wr, t_v0, t_v2, t_v3, i_p1, i_m1, t_k0, t_k1, k_some, k_none, true_and, and_true, ite_true, ite_false, Fin.isValue, l_t0, l_t1, l_ts, l_tn0, l_tns, l_el, t_L, t_Wl, t_v1, t_l0, t_l1, List.tail_cons, List.tail_nil, e_aload_n_0, e_arraylength0, e_getfield, e_goto1N, e_iadd, e_iastore, e_icmp_ge0N, e_icmp_lt0N, e_iconst, e_iinc, e_iload, e_iload_n_1, e_iload_n_2, e_iload_n_3, e_invv1_1, e_invv2_0, e_invv3_0, e_ireturn, e_istore, e_istore_n_3, e_isub, e_lastore, e_lload, e_lor, e_lstore, e_min, e_nop1N, e_return, b36_0, b54_0, b54_1, b54_2, b54_3, b8_0, b9_0, ci36, ci55, ci56, ci8, ci9, ml36, ml8, ml9, q36_0, q54_0, q54_1, q54_2, q54_3, q8_0, q9_0, zE54, zE36, zE9, zE8, o_0, o_1, o_2, a_2, w_2, o_3, a_3, w_3, o_4, o_5, a_5, w_5, o_6, o_7, a_7, w_7, o_8, o_9, a_9, w_9, o_10, o_11, a_11, w_11, o_12, o_13, a_13, w_13, o_14, o_15, o_16, a_16, w_16, o_17, a_17, w_17, o_18, a_18, w_18, o_19, a_19, w_19, o_20, a_20, w_20, o_21, o_22, a_22, w_22, o_23, o_24, a_24, w_24, o_25, a_25, w_25, o_50, o_51, a_51, w_51, o_52, a_52, w_52, o_53, a_53, w_53, o_54, a_54, w_54, o_55, a_55, w_55, o_56, a_56, w_56, o_57, a_57, w_57, o_58, a_58, w_58, o_59, a_59, w_59, o_60, a_60, w_60, o_61, a_61, w_61, o_62, a_62, w_62, o_63, a_63, w_63, o_64, a_64, w_64, o_rp, o_rs, a_rs, w_rs, r_0_0, r_0_1, r_0_2, r_0_3, r_0_4, r_0_5, r_0_6, r_0_7, r_0_12, r_1_3, r_4_0, r_4_1, r_6_0, r_8_0, r_10_2, r_12_2, r_14_0, r_14_1, r_14_2, r_14_3, r_14_4, r_14_5, r_15_2, r_21_0, r_23_0, r_50_1, r_50_5, r_50_6, r_50_7, r_50_8, r_50_10, r_50_11, r_50_12, r_50_13, r_50_14, r_50_17, r_50_18, r_50_21, r_50_23, r_rp, r_rs, h_Fs, h_FF, h_FI, h_FL, h_Is, h_II, h_IF, h_IL, h_Ls, h_LL, h_LF, h_LI, nI_ltT, nI_ltF, nI_leT, nI_leF, nI_eqT, nI_eqF, ng_ltT, ng_ltF, ng_leT, ng_leF, ng_eqF, ng_eqG, n_ltT, n_leT, n_ltF, n_leF, n_eqF, n_eqG, ng_inj, zix_nI, zinR_nI, nI_add, ↓reduceIte, true_or, or_true, or_self, not_true, not_false, Nat.reduceAdd, l_s0g, l_s1g, l_t0g, List.tail_cons, List.tail_nil, hl, g, nI_sub]
  refine x_near_any (ring := ring) (w := w) (fun d => zne S.1.2.1 ring w n (S.1.2.1 - 1) d) hI1 hS (by omega) h6 (Or.inr ⟨n, by omega, rfl, hcl n, p17 n (Nat.le_refl _), fun d _ => rfl⟩) (fun tn htn => ?_)
  simp (disch := first | assumption | omega) only [l_g0, l_gs, l_s0, l_s1, l_ss, l_sn0, l_sns, l_ki, l_kr, l_kl, l_ka, l_en, l_ei, l_er, t_I, t_R, t_W0, t_Wi, t_Wr, t_v0, t_v2, t_v3, i_p1, i_m1, t_k0, t_k1, k_some, k_none, true_and, and_true, ite_true, ite_false, Fin.isValue, l_t0, l_t1, l_ts, l_tn0, l_tns, l_el, t_L, t_Wl, t_v1, t_l0, t_l1, List.tail_cons, List.tail_nil, e_aload_n_0, e_arraylength0, e_getfield, e_goto1N, e_iadd, e_iastore, e_icmp_ge0N, e_icmp_lt0N, e_iconst, e_iinc, e_iload, e_iload_n_1, e_iload_n_2, e_iload_n_3, e_invv1_1, e_invv2_0, e_invv3_0, e_ireturn, e_istore, e_istore_n_3, e_isub, e_lastore, e_lload, e_lor, e_lstore, e_min, e_nop1N, e_return, b36_0, b54_0, b54_1, b54_2, b54_3, b8_0, b9_0, ci36, ci55, ci56, ci8, ci9, ml36, ml8, ml9, q36_0, q54_0, q54_1, q54_2, q54_3, q8_0, q9_0, zE54, zE36, zE9, zE8, o_0, o_1, o_2, a_2, w_2, o_3, a_3, w_3, o_4, o_5, a_5, w_5, o_6, o_7, a_7, w_7, o_8, o_9, a_9, w_9, o_10, o_11, a_11, w_11, o_12, o_13, a_13, w_13, o_14, o_15, o_16, a_16, w_16, o_17, a_17, w_17, o_18, a_18, w_18, o_19, a_19, w_19, o_20, a_20, w_20, o_21, o_22, a_22, w_22, o_23, o_24, a_24, w_24, o_25, a_25, w_25, o_50, o_51, a_51, w_51, o_52, a_52, w_52, o_53, a_53, w_53, o_54, a_54, w_54, o_55, a_55, w_55, o_56, a_56, w_56, o_57, a_57, w_57, o_58, a_58, w_58, o_59, a_59, w_59, o_60, a_60, w_60, o_61, a_61, w_61, o_62, a_62, w_62, o_63, a_63, w_63, o_64, a_64, w_64, o_rp, o_rs, a_rs, w_rs, r_0_0, r_0_1, r_0_2, r_0_3, r_0_4, r_0_5, r_0_6, r_0_7, r_0_12, r_1_3, r_4_0, r_4_1, r_6_0, r_8_0, r_10_2, r_12_2, r_14_0, r_14_1, r_14_2, r_14_3, r_14_4, r_14_5, r_15_2, r_21_0, r_23_0, r_50_1, r_50_5, r_50_6, r_50_7, r_50_8, r_50_10, r_50_11, r_50_12, r_50_13, r_50_14, r_50_17, r_50_18, r_50_21, r_50_23, r_rp, r_rs, h_Fs, h_FF, h_FI, h_FL, h_Is, h_II, h_IF, h_IL, h_Ls, h_LL, h_LF, h_LI, nI_ltT, nI_ltF, nI_leT, nI_leF, nI_eqT, nI_eqF, ng_ltT, ng_ltF, ng_leT, ng_leF, ng_eqF, ng_eqG, n_ltT, n_leT, n_ltF, n_leF, n_eqF, n_eqG, ng_inj, zix_nI, zinR_nI, nI_add, ↓reduceIte, true_or, or_true, or_self, not_true, not_false, Nat.reduceAdd, l_s0g, l_s1g, l_t0g, List.tail_cons, List.tail_nil, hl, g, nI_sub]
  -- what is shut
  have s2 := zsm_L (o := 19) (k := n) (v := sh0 ||| tn) s1 (by decide)
  have hI2 := zscX_IX hI (zscX_sm s2 hR (fun a h => by omega))
  generalize hH2 : zsL (zsI (zsI H 17 n (nI (zcor w n))) 18 n (nI (zgrt S.1.1 S.1.2.2 w n))) 19 n (sh0 ||| tn) = H2 at s2 hI2 ⊢
  have q17 : ∀ i, i ≤ n → H2.2.1 17 i = nI (zcor w i) := fun i hi => by
    rw [← hH2, h_LI]
    exact p17 i hi
  have q18 : ∀ i, i ≤ n → H2.2.1 18 i = nI (zgrt S.1.1 S.1.2.2 w i) := fun i hi => by
    rw [← hH2, h_LI]
    by_cases e : i = n
    · subst e; rw [h_Is]
    · rw [h_II _ _ _ _ _ _ (by omega), h_II _ _ _ _ _ _ (by omega)]
      exact (ha i (by omega)).2.1
  have q19 : ∀ i, i ≤ n → ∀ d, d < 64 → zbit (H2.2.2 19 i) d = zshu S.1.2.1 S.1.2.2 ring w (i + 1) d := fun i hi d hd => by
    rw [← hH2]
    by_cases e : i = n
    · subst e
      rw [h_Ls, zbit_or, hb0 d hd, htn d hd, zshu_s]
    · rw [h_LL _ _ _ _ _ _ (by omega)]
      exact (ha i (by omega)).2.2.1 d hd
  have q20 : ∀ i, i < n → ∀ d, d < 64 → zbit (H2.2.2 20 i) d = ztak S.1.2.1 S.1.2.2 ring w i d := fun i hi d hd => by
    rw [← hH2, h_LL _ _ _ _ _ _ (by omega)]
    exact (ha i (by omega)).2.2.2 d hd
  have r6 : H2.1 14 6 = .int (zb1 ring) := by
    rw [(s2 14 (by omega)).1]; exact h6
  have hR2 := hI2.1
  have g2 := hI2.2.1
  have gl2 : H2.1 15 1 = .int (nI n) := by
    rw [(s2 15 (by omega)).1]; exact hl
  obtain ⟨a0, ha0, hbb⟩ : ∃ a0 : Int64, ((∃ r, (0 < r ∧ r < 1000) ∧ nI (n + 1) - nI S.1.2.1 = -nI r ∧ a0 = S.1.2.2) ∨ ∃ i, i < 65 ∧ nI (n + 1) - nI S.1.2.1 = nI i ∧ a0 = H2.2.2 19 i) ∧ ∀ d, d < 64 → zbit a0 d = if n + 1 < S.1.2.1 then zbit S.1.2.2 d else zshu S.1.2.1 S.1.2.2 ring w (n + 2 - S.1.2.1) d := by
    by_cases e : n + 1 < S.1.2.1
    · refine ⟨S.1.2.2, Or.inl ⟨S.1.2.1 - (n + 1), by omega, nI_subng (by omega), rfl⟩, fun d hd => ?_⟩
      rw [if_pos e]
    · refine ⟨_, Or.inr ⟨n + 1 - S.1.2.1, by omega, nI_sub (by omega), rfl⟩, fun d hd => ?_⟩
      rw [if_neg e, q19 _ (by omega) d hd]
      congr 1
      omega
  refine x_shut_any a0 hI2 ha0 ?_
  simp (disch := first | assumption | omega) only [l_g0, l_gs, l_s0, l_s1, l_ss, l_sn0, l_sns, l_ki, l_kr, l_kl, l_ka, l_en, l_ei, l_er, t_I, t_R, t_W0, t_Wi, t_Wr, t_v0, t_v2, t_v3, i_p1, i_m1, t_k0, t_k1, k_some, k_none, true_and, and_true, ite_true, ite_false, Fin.isValue, l_t0, l_t1, l_ts, l_tn0, l_tns, l_el, t_L, t_Wl, t_v1, t_l0, t_l1, List.tail_cons, List.tail_nil, e_aload_n_0, e_arraylength0, e_getfield, e_goto1N, e_iadd, e_iastore, e_icmp_ge0N, e_icmp_lt0N, e_iconst, e_iinc, e_iload, e_iload_n_1, e_iload_n_2, e_iload_n_3, e_invv1_1, e_invv2_0, e_invv3_0, e_ireturn, e_istore, e_istore_n_3, e_isub, e_lastore, e_lload, e_lor, e_lstore, e_min, e_nop1N, e_return, b36_0, b54_0, b54_1, b54_2, b54_3, b8_0, b9_0, ci36, ci55, ci56, ci8, ci9, ml36, ml8, ml9, q36_0, q54_0, q54_1, q54_2, q54_3, q8_0, q9_0, zE54, zE36, zE9, zE8, o_0, o_1, o_2, a_2, w_2, o_3, a_3, w_3, o_4, o_5, a_5, w_5, o_6, o_7, a_7, w_7, o_8, o_9, a_9, w_9, o_10, o_11, a_11, w_11, o_12, o_13, a_13, w_13, o_14, o_15, o_16, a_16, w_16, o_17, a_17, w_17, o_18, a_18, w_18, o_19, a_19, w_19, o_20, a_20, w_20, o_21, o_22, a_22, w_22, o_23, o_24, a_24, w_24, o_25, a_25, w_25, o_50, o_51, a_51, w_51, o_52, a_52, w_52, o_53, a_53, w_53, o_54, a_54, w_54, o_55, a_55, w_55, o_56, a_56, w_56, o_57, a_57, w_57, o_58, a_58, w_58, o_59, a_59, w_59, o_60, a_60, w_60, o_61, a_61, w_61, o_62, a_62, w_62, o_63, a_63, w_63, o_64, a_64, w_64, o_rp, o_rs, a_rs, w_rs, r_0_0, r_0_1, r_0_2, r_0_3, r_0_4, r_0_5, r_0_6, r_0_7, r_0_12, r_1_3, r_4_0, r_4_1, r_6_0, r_8_0, r_10_2, r_12_2, r_14_0, r_14_1, r_14_2, r_14_3, r_14_4, r_14_5, r_15_2, r_21_0, r_23_0, r_50_1, r_50_5, r_50_6, r_50_7, r_50_8, r_50_10, r_50_11, r_50_12, r_50_13, r_50_14, r_50_17, r_50_18, r_50_21, r_50_23, r_rp, r_rs, h_Fs, h_FF, h_FI, h_FL, h_Is, h_II, h_IF, h_IL, h_Ls, h_LL, h_LF, h_LI, nI_ltT, nI_ltF, nI_leT, nI_leF, nI_eqT, nI_eqF, ng_ltT, ng_ltF, ng_leT, ng_leF, ng_eqF, ng_eqG, n_ltT, n_leT, n_ltF, n_leF, n_eqF, n_eqG, ng_inj, zix_nI, zinR_nI, nI_add, ↓reduceIte, true_or, or_true, or_self, not_true, not_false, Nat.reduceAdd, l_s0g, l_s1g, l_t0g, List.tail_cons, List.tail_nil, gl2, g2]
  refine zfor (R := fun j H' => H' = H2) (fun j H' => ∀ a : Int64, (∀ d, d < 64 → zbit a d = ((if n + 1 < S.1.2.1 then zbit S.1.2.2 d else zshu S.1.2.1 S.1.2.2 ring w (n + 2 - S.1.2.1) d) || !zga (fun b => !(decide (b ≤ n) && zne S.1.2.1 ring w (n - b) b d)) j)) → zAt X 54 65 65 2 [.ref 14, .int (nI (zcor w n)), .int (nI g0), .int (nI n), .int (nI S.1.2.1), .long a, .retAddr 0, .int (nI (j + 1))] [] H' Q) (S.1.2.1 - 1) ?_ ?_ 0 H2 (Nat.zero_le _) rfl a0 (fun d hd => ?_)
  · rintro H' rfl a hab
    have e1 : S.1.2.1 - 1 + 1 = S.1.2.1 := by omega
    rw [e1]
    have hQ := hQ (zsL H' 20 n a) (zsm_L s2 (by decide)) (fun i hi => ⟨q17 i (by omega), q18 i (by omega), fun d hd => by
      rw [h_LL _ _ _ _ _ _ (by omega)]
      exact q19 i (by omega) d hd, fun d hd => by
      by_cases e : i = n
      · subst e
        rw [h_Ls, hab d hd, ztak_of hk.1]
      · rw [h_LL _ _ _ _ _ _ (by omega)]
        exact q20 i (by omega) d hd⟩)
    refine zgo_at 20 ?_
    simp (disch := first | assumption | omega) only [l_g0, l_gs, l_s0, l_s1, l_ss, l_sn0, l_sns, l_ki, l_kr, l_kl, l_ka, l_en, l_ei, l_er, t_I, t_R, t_W0, t_Wi, t_Wr, t_v0, t_v2, t_v3, i_p1, i_m1, t_k0, t_k1, k_some, k_none, true_and, and_true, ite_true, ite_false, Fin.isValue, l_t0, l_t1, l_ts, l_tn0, l_tns, l_el, t_L, t_Wl, t_v1, t_l0, t_l1, List.tail_cons, List.tail_nil, e_aload_n_0, e_arraylength0, e_getfield, e_goto1N, e_iadd, e_iastore, e_icmp_ge0N, e_icmp_lt0N, e_iconst, e_iinc, e_iload, e_iload_n_1, e_iload_n_2, e_iload_n_3, e_invv1_1, e_invv2_0, e_invv3_0, e_ireturn, e_istore, e_istore_n_3, e_isub, e_lastore, e_lload, e_lor, e_lstore, e_min, e_nop1N, e_return, b36_0, b54_0, b54_1, b54_2, b54_3, b8_0, b9_0, ci36, ci55, ci56, ci8, ci9, ml36, ml8, ml9, q36_0, q54_0, q54_1, q54_2, q54_3, q8_0, q9_0, zE54, zE36, zE9, zE8, o_0, o_1, o_2, a_2, w_2, o_3, a_3, w_3, o_4, o_5, a_5, w_5, o_6, o_7, a_7, w_7, o_8, o_9, a_9, w_9, o_10, o_11, a_11, w_11, o_12, o_13, a_13, w_13, o_14, o_15, o_16, a_16, w_16, o_17, a_17, w_17, o_18, a_18, w_18, o_19, a_19, w_19, o_20, a_20, w_20, o_21, o_22, a_22, w_22, o_23, o_24, a_24, w_24, o_25, a_25, w_25, o_50, o_51, a_51, w_51, o_52, a_52, w_52, o_53, a_53, w_53, o_54, a_54, w_54, o_55, a_55, w_55, o_56, a_56, w_56, o_57, a_57, w_57, o_58, a_58, w_58, o_59, a_59, w_59, o_60, a_60, w_60, o_61, a_61, w_61, o_62, a_62, w_62, o_63, a_63, w_63, o_64, a_64, w_64, o_rp, o_rs, a_rs, w_rs, r_0_0, r_0_1, r_0_2, r_0_3, r_0_4, r_0_5, r_0_6, r_0_7, r_0_12, r_1_3, r_4_0, r_4_1, r_6_0, r_8_0, r_10_2, r_12_2, r_14_0, r_14_1, r_14_2, r_14_3, r_14_4, r_14_5, r_15_2, r_21_0, r_23_0, r_50_1, r_50_5, r_50_6, r_50_7, r_50_8, r_50_10, r_50_11, r_50_12, r_50_13, r_50_14, r_50_17, r_50_18, r_50_21, r_50_23, r_rp, r_rs, h_Fs, h_FF, h_FI, h_FL, h_Is, h_II, h_IF, h_IL, h_Ls, h_LL, h_LF, h_LI, nI_ltT, nI_ltF, nI_leT, nI_leF, nI_eqT, nI_eqF, ng_ltT, ng_ltF, ng_leT, ng_leF, ng_eqF, ng_eqG, n_ltT, n_leT, n_ltF, n_leF, n_eqF, n_eqG, ng_inj, zix_nI, zinR_nI, nI_add, ↓reduceIte, true_or, or_true, or_self, not_true, not_false, Nat.reduceAdd, l_s0g, l_s1g, l_t0g, List.tail_cons, List.tail_nil]
    exact hQ
  · rintro j H' hj rfl ih a hab
    have ih := ih H' rfl
    refine zgo_at 20 ?_
    simp (disch := first | assumption | omega) only [l_g0, l_gs, l_s0, l_s1, l_ss, l_sn0, l_sns, l_ki, l_kr, l_kl, l_ka, l_en, l_ei, l_er, t_I, t_R, t_W0, t_Wi, t_Wr, t_v0, t_v2, t_v3, i_p1, i_m1, t_k0, t_k1, k_some, k_none, true_and, and_true, ite_true, ite_false, Fin.isValue, l_t0, l_t1, l_ts, l_tn0, l_tns, l_el, t_L, t_Wl, t_v1, t_l0, t_l1, List.tail_cons, List.tail_nil, e_aload_n_0, e_arraylength0, e_getfield, e_goto1N, e_iadd, e_iastore, e_icmp_ge0N, e_icmp_lt0N, e_iconst, e_iinc, e_iload, e_iload_n_1, e_iload_n_2, e_iload_n_3, e_invv1_1, e_invv2_0, e_invv3_0, e_ireturn, e_istore, e_istore_n_3, e_isub, e_lastore, e_lload, e_lor, e_lstore, e_min, e_nop1N, e_return, b36_0, b54_0, b54_1, b54_2, b54_3, b8_0, b9_0, ci36, ci55, ci56, ci8, ci9, ml36, ml8, ml9, q36_0, q54_0, q54_1, q54_2, q54_3, q8_0, q9_0, zE54, zE36, zE9, zE8, o_0, o_1, o_2, a_2, w_2, o_3, a_3, w_3, o_4, o_5, a_5, w_5, o_6, o_7, a_7, w_7, o_8, o_9, a_9, w_9, o_10, o_11, a_11, w_11, o_12, o_13, a_13, w_13, o_14, o_15, o_16, a_16, w_16, o_17, a_17, w_17, o_18, a_18, w_18, o_19, a_19, w_19, o_20, a_20, w_20, o_21, o_22, a_22, w_22, o_23, o_24, a_24, w_24, o_25, a_25, w_25, o_50, o_51, a_51, w_51, o_52, a_52, w_52, o_53, a_53, w_53, o_54, a_54, w_54, o_55, a_55, w_55, o_56, a_56, w_56, o_57, a_57, w_57, o_58, a_58, w_58, o_59, a_59, w_59, o_60, a_60, w_60, o_61, a_61, w_61, o_62, a_62, w_62, o_63, a_63, w_63, o_64, a_64, w_64, o_rp, o_rs, a_rs, w_rs, r_0_0, r_0_1, r_0_2, r_0_3, r_0_4, r_0_5, r_0_6, r_0_7, r_0_12, r_1_3, r_4_0, r_4_1, r_6_0, r_8_0, r_10_2, r_12_2, r_14_0, r_14_1, r_14_2, r_14_3, r_14_4, r_14_5, r_15_2, r_21_0, r_23_0, r_50_1, r_50_5, r_50_6, r_50_7, r_50_8, r_50_10, r_50_11, r_50_12, r_50_13, r_50_14, r_50_17, r_50_18, r_50_21, r_50_23, r_rp, r_rs, h_Fs, h_FF, h_FI, h_FL, h_Is, h_II, h_IF, h_IL, h_Ls, h_LL, h_LF, h_LI, nI_ltT, nI_ltF, nI_leT, nI_leF, nI_eqT, nI_eqF, ng_ltT, ng_ltF, ng_leT, ng_leF, ng_eqF, ng_eqG, n_ltT, n_leT, n_ltF, n_leF, n_eqF, n_eqG, ng_inj, zix_nI, zinR_nI, nI_add, ↓reduceIte, true_or, or_true, or_self, not_true, not_false, Nat.reduceAdd, l_s0g, l_s1g, l_t0g, List.tail_cons, List.tail_nil]
    have e2 : nI (j + 1) - nI 1 = nI j := by rw [nI_sub (by omega), Nat.add_sub_cancel]
    rw [e2]
    refine x_near_any (ring := ring) (w := w) (fun d => decide (j ≤ n) && zne S.1.2.1 ring w (n - j) j d) hI2 hS (by omega) r6 ?_ (fun tn htn => ?_)
    · by_cases e : j ≤ n
      · refine Or.inr ⟨n - j, by omega, ?_, hcl _, q17 _ (by omega), fun d _ => by rw [decide_eq_true e, Bool.true_and]⟩
        rw [nI_sub (by omega)]
        congr 1
        omega
      · refine Or.inl ⟨j - n, by omega, ?_, fun d _ => by rw [decide_eq_false e, Bool.false_and]⟩
        rw [nI_subng (by omega)]
        congr 2
        omega
    · have ih := ih (a ||| tn) (fun d hd => by
        rw [zbit_or, hab d hd, htn d hd, zga_s]
        generalize (if n + 1 < S.1.2.1 then zbit S.1.2.2 d else zshu S.1.2.1 S.1.2.2 ring w (n + 2 - S.1.2.1) d) = u
        generalize (decide (j ≤ n) && zne S.1.2.1 ring w (n - j) j d) = y
        cases u <;> cases zga (fun b => !(decide (b ≤ n) && zne S.1.2.1 ring w (n - b) b d)) j <;> cases y <;> rfl)
      simp (disch := first | assumption | omega) only [l_g0, l_gs, l_s0, l_s1, l_ss, l_sn0, l_sns, l_ki, l_kr, l_kl, l_ka, l_en, l_ei, l_er, t_I, t_R, t_W0, t_Wi, t_Wr, t_v0, t_v2, t_v3, i_p1, i_m1, t_k0, t_k1, k_some, k_none, true_and, and_true, ite_true, ite_false, Fin.isValue, l_t0, l_t1, l_ts, l_tn0, l_tns, l_el, t_L, t_Wl, t_v1, t_l0, t_l1, List.tail_cons, List.tail_nil, e_aload_n_0, e_arraylength0, e_getfield, e_goto1N, e_iadd, e_iastore, e_icmp_ge0N, e_icmp_lt0N, e_iconst, e_iinc, e_iload, e_iload_n_1, e_iload_n_2, e_iload_n_3, e_invv1_1, e_invv2_0, e_invv3_0, e_ireturn, e_istore, e_istore_n_3, e_isub, e_lastore, e_lload, e_lor, e_lstore, e_min, e_nop1N, e_return, b36_0, b54_0, b54_1, b54_2, b54_3, b8_0, b9_0, ci36, ci55, ci56, ci8, ci9, ml36, ml8, ml9, q36_0, q54_0, q54_1, q54_2, q54_3, q8_0, q9_0, zE54, zE36, zE9, zE8, o_0, o_1, o_2, a_2, w_2, o_3, a_3, w_3, o_4, o_5, a_5, w_5, o_6, o_7, a_7, w_7, o_8, o_9, a_9, w_9, o_10, o_11, a_11, w_11, o_12, o_13, a_13, w_13, o_14, o_15, o_16, a_16, w_16, o_17, a_17, w_17, o_18, a_18, w_18, o_19, a_19, w_19, o_20, a_20, w_20, o_21, o_22, a_22, w_22, o_23, o_24, a_24, w_24, o_25, a_25, w_25, o_50, o_51, a_51, w_51, o_52, a_52, w_52, o_53, a_53, w_53, o_54, a_54, w_54, o_55, a_55, w_55, o_56, a_56, w_56, o_57, a_57, w_57, o_58, a_58, w_58, o_59, a_59, w_59, o_60, a_60, w_60, o_61, a_61, w_61, o_62, a_62, w_62, o_63, a_63, w_63, o_64, a_64, w_64, o_rp, o_rs, a_rs, w_rs, r_0_0, r_0_1, r_0_2, r_0_3, r_0_4, r_0_5, r_0_6, r_0_7, r_0_12, r_1_3, r_4_0, r_4_1, r_6_0, r_8_0, r_10_2, r_12_2, r_14_0, r_14_1, r_14_2, r_14_3, r_14_4, r_14_5, r_15_2, r_21_0, r_23_0, r_50_1, r_50_5, r_50_6, r_50_7, r_50_8, r_50_10, r_50_11, r_50_12, r_50_13, r_50_14, r_50_17, r_50_18, r_50_21, r_50_23, r_rp, r_rs, h_Fs, h_FF, h_FI, h_FL, h_Is, h_II, h_IF, h_IL, h_Ls, h_LL, h_LF, h_LI, nI_ltT, nI_ltF, nI_leT, nI_leF, nI_eqT, nI_eqF, ng_ltT, ng_ltF, ng_leT, ng_leF, ng_eqF, ng_eqG, n_ltT, n_leT, n_ltF, n_leF, n_eqF, n_eqG, ng_inj, zix_nI, zinR_nI, nI_add, ↓reduceIte, true_or, or_true, or_self, not_true, not_false, Nat.reduceAdd, l_s0g, l_s1g, l_t0g, List.tail_cons, List.tail_nil]
      exact ih
  · rw [hbb d hd]
    unfold zga
    rw [Bool.not_true, Bool.or_false]
/-- the pairs at which the class looks before it closes a ring -/
def zcp (k : Nat) (v : List Nat) (n i j : Nat) : Bool := decide (min (min (j - i) (n - (j - i))) k ≤ zpc (zcor v i ^^^ zcor v j))
def zclo (k : Nat) (v : List Nat) (n : Nat) : Bool := decide (zsr k ≤ n) && zga (fun i => zga (fun e => zcp k v n i (i + 1 + e)) (n - (i + 1))) (min k n)
theorem x_closesWith {X : zX} {H : zHp} {S : zU} {n : Nat} {v : List Nat} {Q : Option Value → zHp → Prop} (hI : zIX H S) (hS : zUok S) (hw : ∀ i, zcor v i < 64) (hn : n ≤ 64) (e17 : ∀ i, i < n → H.2.1 17 i = nI (zcor v i)) (hQ : Q (some (.int (zb1 (zclo S.1.2.1 v n)))) H) : zCall X 53 65 [.ref 14, .int (nI n)] H Q := by
  have hR := hI.1
  have g := hI.2.1
  have hk := hS.1.2.2
  have hsr := zsr_le hS
  refine zgo_call 20 (by decide) (by decide +kernel) True.intro ?_
  simp (disch := first | assumption | omega) only [l_g0, l_gs, l_s0, l_s1, l_ss, l_sn0, l_sns, l_ki, l_kr, l_kl, l_ka, l_en, l_ei, l_er, t_I, t_R, t_W0, t_Wi, t_Wr, t_v0, t_v2, t_v3, i_p1, i_m1, t_k0, t_k1, k_some, k_none, true_and, and_true, ite_true, ite_false, Fin.isValue, l_t0, l_t1, l_ts, l_tn0, l_tns, l_el, t_L, t_Wl, t_v1, t_l0, t_l1, List.tail_cons, List.tail_nil, e_aload_n_0, e_arraylength0, e_getfield, e_goto1N, e_iadd, e_iaload0, e_icmp_ge0N, e_iconst, e_if_ne0N, e_iinc, e_iload, e_iload_n_1, e_iload_n_2, e_iload_n_3, e_invv1_0, e_invv1_1, e_invv4_0, e_ireturn, e_istore, e_istore_n_2, e_istore_n_3, e_isub, e_min, e_nop1N, b53_0, b53_1, b53_2, b53_3, b53_4, b53_5, b53_6, b9_0, ci17, ci18, ci9, ml9, q53_0, q53_1, q53_2, q53_3, q53_4, q53_5, q53_6, q9_0, zE53, zE9, o_0, o_1, o_2, a_2, w_2, o_3, a_3, w_3, o_4, o_5, a_5, w_5, o_6, o_7, a_7, w_7, o_8, o_9, a_9, w_9, o_10, o_11, a_11, w_11, o_12, o_13, a_13, w_13, o_14, o_15, o_16, a_16, w_16, o_17, a_17, w_17, o_18, a_18, w_18, o_19, a_19, w_19, o_20, a_20, w_20, o_21, o_22, a_22, w_22, o_23, o_24, a_24, w_24, o_25, a_25, w_25, o_50, o_51, a_51, w_51, o_52, a_52, w_52, o_53, a_53, w_53, o_54, a_54, w_54, o_55, a_55, w_55, o_56, a_56, w_56, o_57, a_57, w_57, o_58, a_58, w_58, o_59, a_59, w_59, o_60, a_60, w_60, o_61, a_61, w_61, o_62, a_62, w_62, o_63, a_63, w_63, o_64, a_64, w_64, o_rp, o_rs, a_rs, w_rs, r_0_0, r_0_1, r_0_2, r_0_3, r_0_4, r_0_5, r_0_6, r_0_7, r_0_12, r_1_3, r_4_0, r_4_1, r_6_0, r_8_0, r_10_2, r_12_2, r_14_0, r_14_1, r_14_2, r_14_3, r_14_4, r_14_5, r_15_2, r_21_0, r_23_0, r_50_1, r_50_5, r_50_6, r_50_7, r_50_8, r_50_10, r_50_11, r_50_12, r_50_13, r_50_14, r_50_17, r_50_18, r_50_21, r_50_23, r_rp, r_rs, h_Fs, h_FF, h_FI, h_FL, h_Is, h_II, h_IF, h_IL, h_Ls, h_LL, h_LF, h_LI, nI_ltT, nI_ltF, nI_leT, nI_leF, nI_eqT, nI_eqF, ng_ltT, ng_ltF, ng_leT, ng_leF, ng_eqF, ng_eqG, n_ltT, n_leT, n_ltF, n_leF, n_eqF, n_eqG, ng_inj, zix_nI, zinR_nI, nI_add, ↓reduceIte, true_or, or_true, or_self, not_true, not_false, Nat.reduceAdd, l_s0g, l_s1g, l_t0g, List.tail_cons, List.tail_nil]
  refine x_shortestRing hI hS ?_
  by_cases h : zsr S.1.2.1 ≤ n
  · have e0 : zclo S.1.2.1 v n = zga (fun i => zga (fun e => zcp S.1.2.1 v n i (i + 1 + e)) (n - (i + 1))) (min S.1.2.1 n) := by
      unfold zclo
      rw [decide_eq_true h, Bool.true_and]
    rw [e0] at hQ
    simp (disch := first | assumption | omega) only [l_g0, l_gs, l_s0, l_s1, l_ss, l_sn0, l_sns, l_ki, l_kr, l_kl, l_ka, l_en, l_ei, l_er, t_I, t_R, t_W0, t_Wi, t_Wr, t_v0, t_v2, t_v3, i_p1, i_m1, t_k0, t_k1, k_some, k_none, true_and, and_true, ite_true, ite_false, Fin.isValue, l_t0, l_t1, l_ts, l_tn0, l_tns, l_el, t_L, t_Wl, t_v1, t_l0, t_l1, List.tail_cons, List.tail_nil, e_aload_n_0, e_arraylength0, e_getfield, e_goto1N, e_iadd, e_iaload0, e_icmp_ge0N, e_iconst, e_if_ne0N, e_iinc, e_iload, e_iload_n_1, e_iload_n_2, e_iload_n_3, e_invv1_0, e_invv1_1, e_invv4_0, e_ireturn, e_istore, e_istore_n_2, e_istore_n_3, e_isub, e_min, e_nop1N, b53_0, b53_1, b53_2, b53_3, b53_4, b53_5, b53_6, b9_0, ci17, ci18, ci9, ml9, q53_0, q53_1, q53_2, q53_3, q53_4, q53_5, q53_6, q9_0, zE53, zE9, o_0, o_1, o_2, a_2, w_2, o_3, a_3, w_3, o_4, o_5, a_5, w_5, o_6, o_7, a_7, w_7, o_8, o_9, a_9, w_9, o_10, o_11, a_11, w_11, o_12, o_13, a_13, w_13, o_14, o_15, o_16, a_16, w_16, o_17, a_17, w_17, o_18, a_18, w_18, o_19, a_19, w_19, o_20, a_20, w_20, o_21, o_22, a_22, w_22, o_23, o_24, a_24, w_24, o_25, a_25, w_25, o_50, o_51, a_51, w_51, o_52, a_52, w_52, o_53, a_53, w_53, o_54, a_54, w_54, o_55, a_55, w_55, o_56, a_56, w_56, o_57, a_57, w_57, o_58, a_58, w_58, o_59, a_59, w_59, o_60, a_60, w_60, o_61, a_61, w_61, o_62, a_62, w_62, o_63, a_63, w_63, o_64, a_64, w_64, o_rp, o_rs, a_rs, w_rs, r_0_0, r_0_1, r_0_2, r_0_3, r_0_4, r_0_5, r_0_6, r_0_7, r_0_12, r_1_3, r_4_0, r_4_1, r_6_0, r_8_0, r_10_2, r_12_2, r_14_0, r_14_1, r_14_2, r_14_3, r_14_4, r_14_5, r_15_2, r_21_0, r_23_0, r_50_1, r_50_5, r_50_6, r_50_7, r_50_8, r_50_10, r_50_11, r_50_12, r_50_13, r_50_14, r_50_17, r_50_18, r_50_21, r_50_23, r_rp, r_rs, h_Fs, h_FF, h_FI, h_FL, h_Is, h_II, h_IF, h_IL, h_Ls, h_LL, h_LF, h_LI, nI_ltT, nI_ltF, nI_leT, nI_leF, nI_eqT, nI_eqF, ng_ltT, ng_ltF, ng_leT, ng_leF, ng_eqF, ng_eqG, n_ltT, n_leT, n_ltF, n_leF, n_eqF, n_eqG, ng_inj, zix_nI, zinR_nI, nI_add, ↓reduceIte, true_or, or_true, or_self, not_true, not_false, Nat.reduceAdd, l_s0g, l_s1g, l_t0g, List.tail_cons, List.tail_nil]
    refine zfor (R := fun i H' => H' = H ∧ ∀ j, j < i → zga (fun e => zcp S.1.2.1 v n j (j + 1 + e)) (n - (j + 1)) = true) (fun i H' => ∀ t, zAt X 53 65 65 2 (.ref 14 :: .int (nI n) :: .int (nI i) :: t) [] H' Q) (min S.1.2.1 n) ?_ ?_ 0 H (Nat.zero_le _) ⟨rfl, fun j hj => absurd hj (by omega)⟩ _
    · rintro H' ⟨rfl, c⟩ t
      rw [zga_iff.mpr c] at hQ
      refine zgo_at 20 ?_
      by_cases h2 : S.1.2.1 ≤ n
      · rw [Nat.min_eq_left h2]
        simp (disch := first | assumption | omega) only [l_g0, l_gs, l_s0, l_s1, l_ss, l_sn0, l_sns, l_ki, l_kr, l_kl, l_ka, l_en, l_ei, l_er, t_I, t_R, t_W0, t_Wi, t_Wr, t_v0, t_v2, t_v3, i_p1, i_m1, t_k0, t_k1, k_some, k_none, true_and, and_true, ite_true, ite_false, Fin.isValue, l_t0, l_t1, l_ts, l_tn0, l_tns, l_el, t_L, t_Wl, t_v1, t_l0, t_l1, List.tail_cons, List.tail_nil, e_aload_n_0, e_arraylength0, e_getfield, e_goto1N, e_iadd, e_iaload0, e_icmp_ge0N, e_iconst, e_if_ne0N, e_iinc, e_iload, e_iload_n_1, e_iload_n_2, e_iload_n_3, e_invv1_0, e_invv1_1, e_invv4_0, e_ireturn, e_istore, e_istore_n_2, e_istore_n_3, e_isub, e_min, e_nop1N, b53_0, b53_1, b53_2, b53_3, b53_4, b53_5, b53_6, b9_0, ci17, ci18, ci9, ml9, q53_0, q53_1, q53_2, q53_3, q53_4, q53_5, q53_6, q9_0, zE53, zE9, o_0, o_1, o_2, a_2, w_2, o_3, a_3, w_3, o_4, o_5, a_5, w_5, o_6, o_7, a_7, w_7, o_8, o_9, a_9, w_9, o_10, o_11, a_11, w_11, o_12, o_13, a_13, w_13, o_14, o_15, o_16, a_16, w_16, o_17, a_17, w_17, o_18, a_18, w_18, o_19, a_19, w_19, o_20, a_20, w_20, o_21, o_22, a_22, w_22, o_23, o_24, a_24, w_24, o_25, a_25, w_25, o_50, o_51, a_51, w_51, o_52, a_52, w_52, o_53, a_53, w_53, o_54, a_54, w_54, o_55, a_55, w_55, o_56, a_56, w_56, o_57, a_57, w_57, o_58, a_58, w_58, o_59, a_59, w_59, o_60, a_60, w_60, o_61, a_61, w_61, o_62, a_62, w_62, o_63, a_63, w_63, o_64, a_64, w_64, o_rp, o_rs, a_rs, w_rs, r_0_0, r_0_1, r_0_2, r_0_3, r_0_4, r_0_5, r_0_6, r_0_7, r_0_12, r_1_3, r_4_0, r_4_1, r_6_0, r_8_0, r_10_2, r_12_2, r_14_0, r_14_1, r_14_2, r_14_3, r_14_4, r_14_5, r_15_2, r_21_0, r_23_0, r_50_1, r_50_5, r_50_6, r_50_7, r_50_8, r_50_10, r_50_11, r_50_12, r_50_13, r_50_14, r_50_17, r_50_18, r_50_21, r_50_23, r_rp, r_rs, h_Fs, h_FF, h_FI, h_FL, h_Is, h_II, h_IF, h_IL, h_Ls, h_LL, h_LF, h_LI, nI_ltT, nI_ltF, nI_leT, nI_leF, nI_eqT, nI_eqF, ng_ltT, ng_ltF, ng_leT, ng_leF, ng_eqF, ng_eqG, n_ltT, n_leT, n_ltF, n_leF, n_eqF, n_eqG, ng_inj, zix_nI, zinR_nI, nI_add, ↓reduceIte, true_or, or_true, or_self, not_true, not_false, Nat.reduceAdd, l_s0g, l_s1g, l_t0g, List.tail_cons, List.tail_nil, g]
        exact hQ
      · rw [Nat.min_eq_right (by omega)]
        simp (disch := first | assumption | omega) only [l_g0, l_gs, l_s0, l_s1, l_ss, l_sn0, l_sns, l_ki, l_kr, l_kl, l_ka, l_en, l_ei, l_er, t_I, t_R, t_W0, t_Wi, t_Wr, t_v0, t_v2, t_v3, i_p1, i_m1, t_k0, t_k1, k_some, k_none, true_and, and_true, ite_true, ite_false, Fin.isValue, l_t0, l_t1, l_ts, l_tn0, l_tns, l_el, t_L, t_Wl, t_v1, t_l0, t_l1, List.tail_cons, List.tail_nil, e_aload_n_0, e_arraylength0, e_getfield, e_goto1N, e_iadd, e_iaload0, e_icmp_ge0N, e_iconst, e_if_ne0N, e_iinc, e_iload, e_iload_n_1, e_iload_n_2, e_iload_n_3, e_invv1_0, e_invv1_1, e_invv4_0, e_ireturn, e_istore, e_istore_n_2, e_istore_n_3, e_isub, e_min, e_nop1N, b53_0, b53_1, b53_2, b53_3, b53_4, b53_5, b53_6, b9_0, ci17, ci18, ci9, ml9, q53_0, q53_1, q53_2, q53_3, q53_4, q53_5, q53_6, q9_0, zE53, zE9, o_0, o_1, o_2, a_2, w_2, o_3, a_3, w_3, o_4, o_5, a_5, w_5, o_6, o_7, a_7, w_7, o_8, o_9, a_9, w_9, o_10, o_11, a_11, w_11, o_12, o_13, a_13, w_13, o_14, o_15, o_16, a_16, w_16, o_17, a_17, w_17, o_18, a_18, w_18, o_19, a_19, w_19, o_20, a_20, w_20, o_21, o_22, a_22, w_22, o_23, o_24, a_24, w_24, o_25, a_25, w_25, o_50, o_51, a_51, w_51, o_52, a_52, w_52, o_53, a_53, w_53, o_54, a_54, w_54, o_55, a_55, w_55, o_56, a_56, w_56, o_57, a_57, w_57, o_58, a_58, w_58, o_59, a_59, w_59, o_60, a_60, w_60, o_61, a_61, w_61, o_62, a_62, w_62, o_63, a_63, w_63, o_64, a_64, w_64, o_rp, o_rs, a_rs, w_rs, r_0_0, r_0_1, r_0_2, r_0_3, r_0_4, r_0_5, r_0_6, r_0_7, r_0_12, r_1_3, r_4_0, r_4_1, r_6_0, r_8_0, r_10_2, r_12_2, r_14_0, r_14_1, r_14_2, r_14_3, r_14_4, r_14_5, r_15_2, r_21_0, r_23_0, r_50_1, r_50_5, r_50_6, r_50_7, r_50_8, r_50_10, r_50_11, r_50_12, r_50_13, r_50_14, r_50_17, r_50_18, r_50_21, r_50_23, r_rp, r_rs, h_Fs, h_FF, h_FI, h_FL, h_Is, h_II, h_IF, h_IL, h_Ls, h_LL, h_LF, h_LI, nI_ltT, nI_ltF, nI_leT, nI_leF, nI_eqT, nI_eqF, ng_ltT, ng_ltF, ng_leT, ng_leF, ng_eqF, ng_eqG, n_ltT, n_leT, n_ltF, n_leF, n_eqF, n_eqG, ng_inj, zix_nI, zinR_nI, nI_add, ↓reduceIte, true_or, or_true, or_self, not_true, not_false, Nat.reduceAdd, l_s0g, l_s1g, l_t0g, List.tail_cons, List.tail_nil, g]
        exact hQ
    · rintro i H' hi ⟨rfl, c⟩ ih t
      have hi1 : i < S.1.2.1 := by omega
      have hi2 : i < n := by omega
      refine zgo_at 20 ?_
      simp (disch := first | assumption | omega) only [l_g0, l_gs, l_s0, l_s1, l_ss, l_sn0, l_sns, l_ki, l_kr, l_kl, l_ka, l_en, l_ei, l_er, t_I, t_R, t_W0, t_Wi, t_Wr, t_v0, t_v2, t_v3, i_p1, i_m1, t_k0, t_k1, k_some, k_none, true_and, and_true, ite_true, ite_false, Fin.isValue, l_t0, l_t1, l_ts, l_tn0, l_tns, l_el, t_L, t_Wl, t_v1, t_l0, t_l1, List.tail_cons, List.tail_nil, e_aload_n_0, e_arraylength0, e_getfield, e_goto1N, e_iadd, e_iaload0, e_icmp_ge0N, e_iconst, e_if_ne0N, e_iinc, e_iload, e_iload_n_1, e_iload_n_2, e_iload_n_3, e_invv1_0, e_invv1_1, e_invv4_0, e_ireturn, e_istore, e_istore_n_2, e_istore_n_3, e_isub, e_min, e_nop1N, b53_0, b53_1, b53_2, b53_3, b53_4, b53_5, b53_6, b9_0, ci17, ci18, ci9, ml9, q53_0, q53_1, q53_2, q53_3, q53_4, q53_5, q53_6, q9_0, zE53, zE9, o_0, o_1, o_2, a_2, w_2, o_3, a_3, w_3, o_4, o_5, a_5, w_5, o_6, o_7, a_7, w_7, o_8, o_9, a_9, w_9, o_10, o_11, a_11, w_11, o_12, o_13, a_13, w_13, o_14, o_15, o_16, a_16, w_16, o_17, a_17, w_17, o_18, a_18, w_18, o_19, a_19, w_19, o_20, a_20, w_20, o_21, o_22, a_22, w_22, o_23, o_24, a_24, w_24, o_25, a_25, w_25, o_50, o_51, a_51, w_51, o_52, a_52, w_52, o_53, a_53, w_53, o_54, a_54, w_54, o_55, a_55, w_55, o_56, a_56, w_56, o_57, a_57, w_57, o_58, a_58, w_58, o_59, a_59, w_59, o_60, a_60, w_60, o_61, a_61, w_61, o_62, a_62, w_62, o_63, a_63, w_63, o_64, a_64, w_64, o_rp, o_rs, a_rs, w_rs, r_0_0, r_0_1, r_0_2, r_0_3, r_0_4, r_0_5, r_0_6, r_0_7, r_0_12, r_1_3, r_4_0, r_4_1, r_6_0, r_8_0, r_10_2, r_12_2, r_14_0, r_14_1, r_14_2, r_14_3, r_14_4, r_14_5, r_15_2, r_21_0, r_23_0, r_50_1, r_50_5, r_50_6, r_50_7, r_50_8, r_50_10, r_50_11, r_50_12, r_50_13, r_50_14, r_50_17, r_50_18, r_50_21, r_50_23, r_rp, r_rs, h_Fs, h_FF, h_FI, h_FL, h_Is, h_II, h_IF, h_IL, h_Ls, h_LL, h_LF, h_LI, nI_ltT, nI_ltF, nI_leT, nI_leF, nI_eqT, nI_eqF, ng_ltT, ng_ltF, ng_leT, ng_leF, ng_eqF, ng_eqG, n_ltT, n_leT, n_ltF, n_leF, n_eqF, n_eqG, ng_inj, zix_nI, zinR_nI, nI_add, ↓reduceIte, true_or, or_true, or_self, not_true, not_false, Nat.reduceAdd, l_s0g, l_s1g, l_t0g, List.tail_cons, List.tail_nil, g]
      have inner : ∀ t, zAt X 53 65 65 3 (.ref 14 :: .int (nI n) :: .int (nI i) :: .int (nI (i + 1 + 0)) :: t) [] H' Q := by
        refine zfor (R := fun e H2 => H2 = H' ∧ ∀ j, j < e → zcp S.1.2.1 v n i (i + 1 + j) = true) (fun e H2 => ∀ t, zAt X 53 65 65 3 (.ref 14 :: .int (nI n) :: .int (nI i) :: .int (nI (i + 1 + e)) :: t) [] H2 Q) (n - (i + 1)) ?_ ?_ 0 H' (Nat.zero_le _) ⟨rfl, fun j hj => absurd hj (by omega)⟩
        · rintro H2 ⟨rfl, c2⟩ t
          have ih := fun t => ih H2 ⟨rfl, fun j hj => by
            by_cases h3 : j = i
            · subst h3; exact zga_iff.mpr c2
            · exact c j (by omega)⟩ t
          have e3 : i + 1 + (n - (i + 1)) = n := by omega
          rw [e3]
          refine zgo_at 20 ?_
          simp (disch := first | assumption | omega) only [l_g0, l_gs, l_s0, l_s1, l_ss, l_sn0, l_sns, l_ki, l_kr, l_kl, l_ka, l_en, l_ei, l_er, t_I, t_R, t_W0, t_Wi, t_Wr, t_v0, t_v2, t_v3, i_p1, i_m1, t_k0, t_k1, k_some, k_none, true_and, and_true, ite_true, ite_false, Fin.isValue, l_t0, l_t1, l_ts, l_tn0, l_tns, l_el, t_L, t_Wl, t_v1, t_l0, t_l1, List.tail_cons, List.tail_nil, e_aload_n_0, e_arraylength0, e_getfield, e_goto1N, e_iadd, e_iaload0, e_icmp_ge0N, e_iconst, e_if_ne0N, e_iinc, e_iload, e_iload_n_1, e_iload_n_2, e_iload_n_3, e_invv1_0, e_invv1_1, e_invv4_0, e_ireturn, e_istore, e_istore_n_2, e_istore_n_3, e_isub, e_min, e_nop1N, b53_0, b53_1, b53_2, b53_3, b53_4, b53_5, b53_6, b9_0, ci17, ci18, ci9, ml9, q53_0, q53_1, q53_2, q53_3, q53_4, q53_5, q53_6, q9_0, zE53, zE9, o_0, o_1, o_2, a_2, w_2, o_3, a_3, w_3, o_4, o_5, a_5, w_5, o_6, o_7, a_7, w_7, o_8, o_9, a_9, w_9, o_10, o_11, a_11, w_11, o_12, o_13, a_13, w_13, o_14, o_15, o_16, a_16, w_16, o_17, a_17, w_17, o_18, a_18, w_18, o_19, a_19, w_19, o_20, a_20, w_20, o_21, o_22, a_22, w_22, o_23, o_24, a_24, w_24, o_25, a_25, w_25, o_50, o_51, a_51, w_51, o_52, a_52, w_52, o_53, a_53, w_53, o_54, a_54, w_54, o_55, a_55, w_55, o_56, a_56, w_56, o_57, a_57, w_57, o_58, a_58, w_58, o_59, a_59, w_59, o_60, a_60, w_60, o_61, a_61, w_61, o_62, a_62, w_62, o_63, a_63, w_63, o_64, a_64, w_64, o_rp, o_rs, a_rs, w_rs, r_0_0, r_0_1, r_0_2, r_0_3, r_0_4, r_0_5, r_0_6, r_0_7, r_0_12, r_1_3, r_4_0, r_4_1, r_6_0, r_8_0, r_10_2, r_12_2, r_14_0, r_14_1, r_14_2, r_14_3, r_14_4, r_14_5, r_15_2, r_21_0, r_23_0, r_50_1, r_50_5, r_50_6, r_50_7, r_50_8, r_50_10, r_50_11, r_50_12, r_50_13, r_50_14, r_50_17, r_50_18, r_50_21, r_50_23, r_rp, r_rs, h_Fs, h_FF, h_FI, h_FL, h_Is, h_II, h_IF, h_IL, h_Ls, h_LL, h_LF, h_LI, nI_ltT, nI_ltF, nI_leT, nI_leF, nI_eqT, nI_eqF, ng_ltT, ng_ltF, ng_leT, ng_leF, ng_eqF, ng_eqG, n_ltT, n_leT, n_ltF, n_leF, n_eqF, n_eqG, ng_inj, zix_nI, zinR_nI, nI_add, ↓reduceIte, true_or, or_true, or_self, not_true, not_false, Nat.reduceAdd, l_s0g, l_s1g, l_t0g, List.tail_cons, List.tail_nil]
          exact ih _
        · rintro e H2 he ⟨rfl, c2⟩ ih2 t
          have e4 := e17 i hi2
          have e5 := e17 (i + 1 + e) (by omega)
          have em : zmin (nI (i + 1 + e - i)) (nI (n - (i + 1 + e - i))) = nI (min (i + 1 + e - i) (n - (i + 1 + e - i))) := zmin_n (by omega) (by omega)
          refine zgo_at 20 ?_
          simp (disch := first | assumption | omega) only [l_g0, l_gs, l_s0, l_s1, l_ss, l_sn0, l_sns, l_ki, l_kr, l_kl, l_ka, l_en, l_ei, l_er, t_I, t_R, t_W0, t_Wi, t_Wr, t_v0, t_v2, t_v3, i_p1, i_m1, t_k0, t_k1, k_some, k_none, true_and, and_true, ite_true, ite_false, Fin.isValue, l_t0, l_t1, l_ts, l_tn0, l_tns, l_el, t_L, t_Wl, t_v1, t_l0, t_l1, List.tail_cons, List.tail_nil, e_aload_n_0, e_arraylength0, e_getfield, e_goto1N, e_iadd, e_iaload0, e_icmp_ge0N, e_iconst, e_if_ne0N, e_iinc, e_iload, e_iload_n_1, e_iload_n_2, e_iload_n_3, e_invv1_0, e_invv1_1, e_invv4_0, e_ireturn, e_istore, e_istore_n_2, e_istore_n_3, e_isub, e_min, e_nop1N, b53_0, b53_1, b53_2, b53_3, b53_4, b53_5, b53_6, b9_0, ci17, ci18, ci9, ml9, q53_0, q53_1, q53_2, q53_3, q53_4, q53_5, q53_6, q9_0, zE53, zE9, o_0, o_1, o_2, a_2, w_2, o_3, a_3, w_3, o_4, o_5, a_5, w_5, o_6, o_7, a_7, w_7, o_8, o_9, a_9, w_9, o_10, o_11, a_11, w_11, o_12, o_13, a_13, w_13, o_14, o_15, o_16, a_16, w_16, o_17, a_17, w_17, o_18, a_18, w_18, o_19, a_19, w_19, o_20, a_20, w_20, o_21, o_22, a_22, w_22, o_23, o_24, a_24, w_24, o_25, a_25, w_25, o_50, o_51, a_51, w_51, o_52, a_52, w_52, o_53, a_53, w_53, o_54, a_54, w_54, o_55, a_55, w_55, o_56, a_56, w_56, o_57, a_57, w_57, o_58, a_58, w_58, o_59, a_59, w_59, o_60, a_60, w_60, o_61, a_61, w_61, o_62, a_62, w_62, o_63, a_63, w_63, o_64, a_64, w_64, o_rp, o_rs, a_rs, w_rs, r_0_0, r_0_1, r_0_2, r_0_3, r_0_4, r_0_5, r_0_6, r_0_7, r_0_12, r_1_3, r_4_0, r_4_1, r_6_0, r_8_0, r_10_2, r_12_2, r_14_0, r_14_1, r_14_2, r_14_3, r_14_4, r_14_5, r_15_2, r_21_0, r_23_0, r_50_1, r_50_5, r_50_6, r_50_7, r_50_8, r_50_10, r_50_11, r_50_12, r_50_13, r_50_14, r_50_17, r_50_18, r_50_21, r_50_23, r_rp, r_rs, h_Fs, h_FF, h_FI, h_FL, h_Is, h_II, h_IF, h_IL, h_Ls, h_LL, h_LF, h_LI, nI_ltT, nI_ltF, nI_leT, nI_leF, nI_eqT, nI_eqF, ng_ltT, ng_ltF, ng_leT, ng_leF, ng_eqF, ng_eqG, n_ltT, n_leT, n_ltF, n_leF, n_eqF, n_eqG, ng_inj, zix_nI, zinR_nI, nI_add, ↓reduceIte, true_or, or_true, or_self, not_true, not_false, Nat.reduceAdd, l_s0g, l_s1g, l_t0g, List.tail_cons, List.tail_nil, nI_sub, em, e4, e5]
          refine x_mayStand hI hS (hw i) (hw _) (by omega) ?_
          by_cases h3 : min (min (i + 1 + e - i) (n - (i + 1 + e - i))) S.1.2.1 ≤ zpc (zcor v i ^^^ zcor v (i + 1 + e))
          · have ih2 := fun t => ih2 H2 ⟨rfl, fun j hj => by
              by_cases h4 : j = e
              · subst h4; exact decide_eq_true h3
              · exact c2 j (by omega)⟩ t
            rw [decide_eq_true h3]
            simp (disch := first | assumption | omega) only [l_g0, l_gs, l_s0, l_s1, l_ss, l_sn0, l_sns, l_ki, l_kr, l_kl, l_ka, l_en, l_ei, l_er, t_I, t_R, t_W0, t_Wi, t_Wr, t_v0, t_v2, t_v3, i_p1, i_m1, t_k0, t_k1, k_some, k_none, true_and, and_true, ite_true, ite_false, Fin.isValue, l_t0, l_t1, l_ts, l_tn0, l_tns, l_el, t_L, t_Wl, t_v1, t_l0, t_l1, List.tail_cons, List.tail_nil, e_aload_n_0, e_arraylength0, e_getfield, e_goto1N, e_iadd, e_iaload0, e_icmp_ge0N, e_iconst, e_if_ne0N, e_iinc, e_iload, e_iload_n_1, e_iload_n_2, e_iload_n_3, e_invv1_0, e_invv1_1, e_invv4_0, e_ireturn, e_istore, e_istore_n_2, e_istore_n_3, e_isub, e_min, e_nop1N, b53_0, b53_1, b53_2, b53_3, b53_4, b53_5, b53_6, b9_0, ci17, ci18, ci9, ml9, q53_0, q53_1, q53_2, q53_3, q53_4, q53_5, q53_6, q9_0, zE53, zE9, o_0, o_1, o_2, a_2, w_2, o_3, a_3, w_3, o_4, o_5, a_5, w_5, o_6, o_7, a_7, w_7, o_8, o_9, a_9, w_9, o_10, o_11, a_11, w_11, o_12, o_13, a_13, w_13, o_14, o_15, o_16, a_16, w_16, o_17, a_17, w_17, o_18, a_18, w_18, o_19, a_19, w_19, o_20, a_20, w_20, o_21, o_22, a_22, w_22, o_23, o_24, a_24, w_24, o_25, a_25, w_25, o_50, o_51, a_51, w_51, o_52, a_52, w_52, o_53, a_53, w_53, o_54, a_54, w_54, o_55, a_55, w_55, o_56, a_56, w_56, o_57, a_57, w_57, o_58, a_58, w_58, o_59, a_59, w_59, o_60, a_60, w_60, o_61, a_61, w_61, o_62, a_62, w_62, o_63, a_63, w_63, o_64, a_64, w_64, o_rp, o_rs, a_rs, w_rs, r_0_0, r_0_1, r_0_2, r_0_3, r_0_4, r_0_5, r_0_6, r_0_7, r_0_12, r_1_3, r_4_0, r_4_1, r_6_0, r_8_0, r_10_2, r_12_2, r_14_0, r_14_1, r_14_2, r_14_3, r_14_4, r_14_5, r_15_2, r_21_0, r_23_0, r_50_1, r_50_5, r_50_6, r_50_7, r_50_8, r_50_10, r_50_11, r_50_12, r_50_13, r_50_14, r_50_17, r_50_18, r_50_21, r_50_23, r_rp, r_rs, h_Fs, h_FF, h_FI, h_FL, h_Is, h_II, h_IF, h_IL, h_Ls, h_LL, h_LF, h_LI, nI_ltT, nI_ltF, nI_leT, nI_leF, nI_eqT, nI_eqF, ng_ltT, ng_ltF, ng_leT, ng_leF, ng_eqF, ng_eqG, n_ltT, n_leT, n_ltF, n_leF, n_eqF, n_eqG, ng_inj, zix_nI, zinR_nI, nI_add, ↓reduceIte, true_or, or_true, or_self, not_true, not_false, Nat.reduceAdd, l_s0g, l_s1g, l_t0g, List.tail_cons, List.tail_nil, zb1_t]
            exact ih2 _
          · have e6 : zga (fun i => zga (fun e => zcp S.1.2.1 v n i (i + 1 + e)) (n - (i + 1))) (min S.1.2.1 n) = false := zga_f hi (zga_f he (decide_eq_false h3))
            rw [e6] at hQ
            rw [decide_eq_false h3]
            simp (disch := first | assumption | omega) only [l_g0, l_gs, l_s0, l_s1, l_ss, l_sn0, l_sns, l_ki, l_kr, l_kl, l_ka, l_en, l_ei, l_er, t_I, t_R, t_W0, t_Wi, t_Wr, t_v0, t_v2, t_v3, i_p1, i_m1, t_k0, t_k1, k_some, k_none, true_and, and_true, ite_true, ite_false, Fin.isValue, l_t0, l_t1, l_ts, l_tn0, l_tns, l_el, t_L, t_Wl, t_v1, t_l0, t_l1, List.tail_cons, List.tail_nil, e_aload_n_0, e_arraylength0, e_getfield, e_goto1N, e_iadd, e_iaload0, e_icmp_ge0N, e_iconst, e_if_ne0N, e_iinc, e_iload, e_iload_n_1, e_iload_n_2, e_iload_n_3, e_invv1_0, e_invv1_1, e_invv4_0, e_ireturn, e_istore, e_istore_n_2, e_istore_n_3, e_isub, e_min, e_nop1N, b53_0, b53_1, b53_2, b53_3, b53_4, b53_5, b53_6, b9_0, ci17, ci18, ci9, ml9, q53_0, q53_1, q53_2, q53_3, q53_4, q53_5, q53_6, q9_0, zE53, zE9, o_0, o_1, o_2, a_2, w_2, o_3, a_3, w_3, o_4, o_5, a_5, w_5, o_6, o_7, a_7, w_7, o_8, o_9, a_9, w_9, o_10, o_11, a_11, w_11, o_12, o_13, a_13, w_13, o_14, o_15, o_16, a_16, w_16, o_17, a_17, w_17, o_18, a_18, w_18, o_19, a_19, w_19, o_20, a_20, w_20, o_21, o_22, a_22, w_22, o_23, o_24, a_24, w_24, o_25, a_25, w_25, o_50, o_51, a_51, w_51, o_52, a_52, w_52, o_53, a_53, w_53, o_54, a_54, w_54, o_55, a_55, w_55, o_56, a_56, w_56, o_57, a_57, w_57, o_58, a_58, w_58, o_59, a_59, w_59, o_60, a_60, w_60, o_61, a_61, w_61, o_62, a_62, w_62, o_63, a_63, w_63, o_64, a_64, w_64, o_rp, o_rs, a_rs, w_rs, r_0_0, r_0_1, r_0_2, r_0_3, r_0_4, r_0_5, r_0_6, r_0_7, r_0_12, r_1_3, r_4_0, r_4_1, r_6_0, r_8_0, r_10_2, r_12_2, r_14_0, r_14_1, r_14_2, r_14_3, r_14_4, r_14_5, r_15_2, r_21_0, r_23_0, r_50_1, r_50_5, r_50_6, r_50_7, r_50_8, r_50_10, r_50_11, r_50_12, r_50_13, r_50_14, r_50_17, r_50_18, r_50_21, r_50_23, r_rp, r_rs, h_Fs, h_FF, h_FI, h_FL, h_Is, h_II, h_IF, h_IL, h_Ls, h_LL, h_LF, h_LI, nI_ltT, nI_ltF, nI_leT, nI_leF, nI_eqT, nI_eqF, ng_ltT, ng_ltF, ng_leT, ng_leF, ng_eqF, ng_eqG, n_ltT, n_leT, n_ltF, n_leF, n_eqF, n_eqG, ng_inj, zix_nI, zinR_nI, nI_add, ↓reduceIte, true_or, or_true, or_self, not_true, not_false, Nat.reduceAdd, l_s0g, l_s1g, l_t0g, List.tail_cons, List.tail_nil, zb1_f]
            exact hQ
      exact inner _
  · have e0 : zclo S.1.2.1 v n = false := by
      unfold zclo
      rw [decide_eq_false h, Bool.false_and]
    rw [e0] at hQ
    simp (disch := first | assumption | omega) only [l_g0, l_gs, l_s0, l_s1, l_ss, l_sn0, l_sns, l_ki, l_kr, l_kl, l_ka, l_en, l_ei, l_er, t_I, t_R, t_W0, t_Wi, t_Wr, t_v0, t_v2, t_v3, i_p1, i_m1, t_k0, t_k1, k_some, k_none, true_and, and_true, ite_true, ite_false, Fin.isValue, l_t0, l_t1, l_ts, l_tn0, l_tns, l_el, t_L, t_Wl, t_v1, t_l0, t_l1, List.tail_cons, List.tail_nil, e_aload_n_0, e_arraylength0, e_getfield, e_goto1N, e_iadd, e_iaload0, e_icmp_ge0N, e_iconst, e_if_ne0N, e_iinc, e_iload, e_iload_n_1, e_iload_n_2, e_iload_n_3, e_invv1_0, e_invv1_1, e_invv4_0, e_ireturn, e_istore, e_istore_n_2, e_istore_n_3, e_isub, e_min, e_nop1N, b53_0, b53_1, b53_2, b53_3, b53_4, b53_5, b53_6, b9_0, ci17, ci18, ci9, ml9, q53_0, q53_1, q53_2, q53_3, q53_4, q53_5, q53_6, q9_0, zE53, zE9, o_0, o_1, o_2, a_2, w_2, o_3, a_3, w_3, o_4, o_5, a_5, w_5, o_6, o_7, a_7, w_7, o_8, o_9, a_9, w_9, o_10, o_11, a_11, w_11, o_12, o_13, a_13, w_13, o_14, o_15, o_16, a_16, w_16, o_17, a_17, w_17, o_18, a_18, w_18, o_19, a_19, w_19, o_20, a_20, w_20, o_21, o_22, a_22, w_22, o_23, o_24, a_24, w_24, o_25, a_25, w_25, o_50, o_51, a_51, w_51, o_52, a_52, w_52, o_53, a_53, w_53, o_54, a_54, w_54, o_55, a_55, w_55, o_56, a_56, w_56, o_57, a_57, w_57, o_58, a_58, w_58, o_59, a_59, w_59, o_60, a_60, w_60, o_61, a_61, w_61, o_62, a_62, w_62, o_63, a_63, w_63, o_64, a_64, w_64, o_rp, o_rs, a_rs, w_rs, r_0_0, r_0_1, r_0_2, r_0_3, r_0_4, r_0_5, r_0_6, r_0_7, r_0_12, r_1_3, r_4_0, r_4_1, r_6_0, r_8_0, r_10_2, r_12_2, r_14_0, r_14_1, r_14_2, r_14_3, r_14_4, r_14_5, r_15_2, r_21_0, r_23_0, r_50_1, r_50_5, r_50_6, r_50_7, r_50_8, r_50_10, r_50_11, r_50_12, r_50_13, r_50_14, r_50_17, r_50_18, r_50_21, r_50_23, r_rp, r_rs, h_Fs, h_FF, h_FI, h_FL, h_Is, h_II, h_IF, h_IL, h_Ls, h_LL, h_LF, h_LI, nI_ltT, nI_ltF, nI_leT, nI_leF, nI_eqT, nI_eqF, ng_ltT, ng_ltF, ng_leT, ng_leF, ng_eqF, ng_eqG, n_ltT, n_leT, n_ltF, n_leF, n_eqF, n_eqG, ng_inj, zix_nI, zinR_nI, nI_add, ↓reduceIte, true_or, or_true, or_self, not_true, not_false, Nat.reduceAdd, l_s0g, l_s1g, l_t0g, List.tail_cons, List.tail_nil]
    exact hQ
/-- an open row closes where these pairs stand as they may -/
theorem zclo_rg {D k : Nat} {B : Int64} {v : List Nat} {x : Nat} (hx : x < D) (h : zgod D k B true v) (h0 : zcor (v ++ [x]) (v.length + 1) = 0) : zclo k v (v.length + 1) = zrg D k B (v ++ [x]) := by
  obtain ⟨g1, g2, g3⟩ := h
  have hz : ∀ i j, i < j → j < v.length + 1 → zopp k v i j = true := fun i j hi hj => by
    have := (g3 (j - 1) (by omega)).2.2.1 rfl
    rw [Nat.sub_add_cancel (by omega)] at this
    unfold zop at this
    rw [Bool.and_eq_true, zga_iff] at this
    exact this.2 i hi
  have hl : (v ++ [x]).length = v.length + 1 := by simp
  have hpos : ∀ i, i < v.length + 1 → zbit B (zcor v i) = false := fun i hi => by
    by_cases e : i = 0
    · subst e; exact g1
    · have := (g3 (i - 1) (by omega)).2.2.1 rfl
      rw [Nat.sub_add_cancel (by omega)] at this
      unfold zop at this
      rw [Bool.and_eq_true, Bool.not_eq_true'] at this
      exact this.1
  have ec : ∀ i, i ≤ v.length → zcor (v ++ [x]) i = zcor v i := fun i hi => zcor_app hi
  have e1 : zga (zri D B (v ++ [x])) (v.length + 1) = true := zga_iff.mpr (fun i hi => by
    unfold zri
    rw [ec i (by omega), hpos i hi, Bool.and_eq_true]
    refine ⟨decide_eq_true ?_, rfl⟩
    by_cases e : i < v.length
    · rw [z_app_lt e]
      exact (g3 i e).1
    · have e : i = v.length := by omega
      subst e
      rw [z_app_last]
      exact hx)
  have ep : ∀ i j, i < j → j < v.length + 1 → zrf k (v ++ [x]) i j = zcp k v (v.length + 1) i j := fun i j hi hj => by
    unfold zrf zcp
    rw [hl, ec i (by omega), ec j (by omega)]
  rw [Bool.eq_iff_iff]
  unfold zrg zclo
  rw [hl, h0, e1, decide_eq_true (rfl : (0 : Nat) = 0), Bool.and_true, Bool.and_true, Bool.and_eq_true, Bool.and_eq_true, zga_iff, zga_iff]
  refine and_congr Iff.rfl ?_
  constructor
  · intro h j hj
    refine zga_iff.mpr (fun i hi => ?_)
    rw [ep i j hi hj]
    by_cases hik : i < k
    · have := zga_iff.mp (h i (by omega)) (j - (i + 1)) (by omega)
      have e : i + 1 + (j - (i + 1)) = j := by omega
      rw [e] at this
      exact this
    · have := hz i j hi hj
      unfold zopp at this
      simp only [Bool.and_eq_true, decide_eq_true_eq, Bool.or_eq_true] at this
      refine decide_eq_true ?_
      omega
  · intro h i hi
    refine zga_iff.mpr (fun e he => ?_)
    rw [← ep i (i + 1 + e) (by omega) (by omega)]
    exact zga_iff.mp (h (i + 1 + e) (by omega)) i (by omega)
