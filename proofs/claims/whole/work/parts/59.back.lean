/-! the seeker goes on by a way, or takes a step back -/
def zSo (H : zHp) (S : zU) (ring : Bool) (m : Nat) (v : List Nat) : Prop := zSf H ring m false ∧ zSw H v ∧ zSa H S.1.1 S.1.2.1 S.1.2.2 ring v (v.length + 1)
def zSc (H : zHp) (S : zU) (ring : Bool) (m : Nat) (v : List Nat) (x : Nat) : Prop := zSf H ring m true ∧ zSw H (v ++ [x]) ∧ zSa H S.1.1 S.1.2.1 S.1.2.2 ring v (v.length + 1)
theorem zSe_sm {H H' : zHp} {D k : Nat} {B : Int64} {ring : Bool} {v : List Nat} {i : Nat} {T : Nat → Prop} (h : zSe H D k B ring v i) (hs : zsm T H H') (hT : ∀ a, 17 ≤ a → a ≤ 20 → ¬ T a) : zSe H' D k B ring v i := by
  obtain ⟨h1, h2, h3, h4⟩ := h
  refine ⟨by rw [(hs 17 (hT _ (by decide) (by decide))).2.1]; exact h1, by rw [(hs 18 (hT _ (by decide) (by decide))).2.1]; exact h2, fun d hd => ?_, fun d hd => ?_⟩
  · rw [(hs 19 (hT _ (by decide) (by decide))).2.2]; exact h3 d hd
  · rw [(hs 20 (hT _ (by decide) (by decide))).2.2]; exact h4 d hd
theorem zSf_sm {H H' : zHp} {ring cl : Bool} {m : Nat} {T : Nat → Prop} (h : zSf H ring m cl) (hs : zsm T H H') (hT : ¬ T 14) : zSf H' ring m cl := by
  unfold zSf
  rw [(hs 14 hT).1]
  exact h
theorem zSw_sm {H H' : zHp} {v : List Nat} {T : Nat → Prop} (h : zSw H v) (hs : zsm T H H') (h1 : ¬ T 15) (h2 : ¬ T 16) : zSw H' v := by
  unfold zSw
  rw [(hs 15 h1).1, (hs 16 h2).2.1]
  exact h
theorem zhw_close {D k : Nat} {B : Int64} {v : List Nat} {x : Nat} (hl : v.length < 64) (hm : ¬ (B = lN 0 ∧ zmwn v v.length < x)) (h0 : zcor (v ++ [x]) (v.length + 1) = 0) : zhw D k B true v x = if zrg D k B (v ++ [x]) = true then 2 else 0 := by
  unfold zhw
  rw [if_neg (by omega), if_neg hm, if_pos rfl]
  split
  · rfl
  · rw [if_neg]
    intro h
    unfold zop at h
    rw [Bool.and_eq_true, zga_iff] at h
    have h2 := h.2 0 (by omega)
    unfold zopp at h2
    rw [h0] at h2
    simp only [Bool.and_eq_true, decide_eq_true_eq] at h2
    have h3 := h2.1
    have e : zcor (v ++ [x]) 0 = 0 := rfl
    rw [e] at h3
    exact absurd h3 (by decide)
theorem zhw_open {D k : Nat} {B : Int64} {ring : Bool} {v : List Nat} {x : Nat} (hk : 1 ≤ k) (hl : v.length < 64) (h6 : ∀ y ∈ v ++ [x], y < 6) (hm : ¬ (B = lN 0 ∧ zmwn v v.length < x)) (h0 : ring = true → zcor (v ++ [x]) (v.length + 1) ≠ 0) : zhw D k B ring v x = if ztak k B ring v v.length (zcor (v ++ [x]) (v.length + 1)) = true then 0 else 1 := by
  unfold zhw
  rw [if_neg (by omega), if_neg hm]
  cases ring
  · have e := ztak_snake (B := B) hk h6
    rw [if_neg (by decide), ← e]
    cases ztak k B false v v.length (zcor (v ++ [x]) (v.length + 1)) <;> simp
  · have e := ztak_ring (B := B) hk h6
    have e2 : zrg D k B (v ++ [x]) = false := by
      rw [← Bool.not_eq_true]
      intro h
      have := (zrg_ok h).2.1
      rw [List.length_append] at this
      exact h0 rfl this
    rw [if_pos rfl, e2, if_neg (by decide), ← e]
    cases ztak k B true v v.length (zcor (v ++ [x]) (v.length + 1)) <;> simp
theorem x_takeBack_0 {X : zX} {H : zHp} {Q : Option Value → zHp → Prop} (hR : zRf H) (hw : H.1 15 1 = .int (nI 0)) (hQ : Q (some (.int (-nI 9))) (zsF H 14 7 (.int (nI 0)))) : zCall X 50 65 [.ref 14] H Q := by
  have e0 : nI 0 - nI 1 = -nI 1 := by decide
  refine zgo_call 20 (by decide) (by decide +kernel) True.intro ?_
  simp (disch := first | assumption | omega) only [l_g0, l_gs, l_s0, l_s1, l_ss, l_sn0, l_sns, l_ki, l_kr, l_kl, l_ka, l_en, l_ei, l_er, t_I, t_R, t_W0, t_Wi, t_Wr, t_v0, t_v2, t_v3, i_p1, i_m1, t_k0, t_k1, k_some, k_none, true_and, and_true, ite_true, ite_false, Fin.isValue, l_t0, l_t1, l_ts, l_tn0, l_tns, l_el, t_L, t_Wl, t_v1, t_l0, t_l1, List.tail_cons, List.tail_nil, e_aload_n_0, e_arraylength0, e_bipush, e_getfield, e_goto0N, e_iadd, e_iaload0, e_icmp_ge0N, e_iconst, e_if_ge0N, e_if_lt0N, e_iload_n_1, e_iload_n_2, e_invv1_1, e_invv2_1, e_ireturn, e_istore_n_1, e_istore_n_2, e_isub, e_nop0N, e_putfield, e_return, b36_0, b41_0, b41_1, b41_2, b42_0, b42_1, b50_0, b50_1, ci36, ci41, ci42, ml36, ml41, ml42, q36_0, q41_0, q41_1, q41_2, q42_0, q42_1, q50_0, q50_1, zE50, zE36, zE41, zE42, o_0, o_1, o_2, a_2, w_2, o_3, a_3, w_3, o_4, o_5, a_5, w_5, o_6, o_7, a_7, w_7, o_8, o_9, a_9, w_9, o_10, o_11, a_11, w_11, o_12, o_13, a_13, w_13, o_14, o_15, o_16, a_16, w_16, o_17, a_17, w_17, o_18, a_18, w_18, o_19, a_19, w_19, o_20, a_20, w_20, o_21, o_22, a_22, w_22, o_23, o_24, a_24, w_24, o_25, a_25, w_25, o_50, o_51, a_51, w_51, o_52, a_52, w_52, o_53, a_53, w_53, o_54, a_54, w_54, o_55, a_55, w_55, o_56, a_56, w_56, o_57, a_57, w_57, o_58, a_58, w_58, o_59, a_59, w_59, o_60, a_60, w_60, o_61, a_61, w_61, o_62, a_62, w_62, o_63, a_63, w_63, o_64, a_64, w_64, o_rp, o_rs, a_rs, w_rs, r_0_0, r_0_1, r_0_2, r_0_3, r_0_4, r_0_5, r_0_6, r_0_7, r_0_12, r_1_3, r_4_0, r_4_1, r_6_0, r_8_0, r_10_2, r_12_2, r_14_0, r_14_1, r_14_2, r_14_3, r_14_4, r_14_5, r_15_2, r_21_0, r_23_0, r_50_1, r_50_5, r_50_6, r_50_7, r_50_8, r_50_10, r_50_11, r_50_12, r_50_13, r_50_14, r_50_17, r_50_18, r_50_21, r_50_23, r_rp, r_rs, h_Fs, h_FF, h_FI, h_FL, h_Is, h_II, h_IF, h_IL, h_Ls, h_LL, h_LF, h_LI, nI_ltT, nI_ltF, nI_leT, nI_leF, nI_eqT, nI_eqF, ng_ltT, ng_ltF, ng_leT, ng_leF, ng_eqF, ng_eqG, n_ltT, n_leT, n_ltF, n_leF, n_eqF, n_eqG, ng_inj, zix_nI, zinR_nI, nI_add, ↓reduceIte, true_or, or_true, or_self, not_true, not_false, Nat.reduceAdd, l_s0g, l_s1g, l_t0g, List.tail_cons, List.tail_nil, hw, e0]
  exact hQ
theorem x_takeBack {X : zX} {H : zHp} {v : List Nat} {z : Nat} {Q : Option Value → zHp → Prop} (hR : zRf H) (hw : zSw H (v ++ [z])) (hl : v.length ≤ 63) (hQ : Q (some (.int (nI (z + 1)))) (zsF (zsF H 14 7 (.int (nI 0))) 15 1 (.int (nI v.length)))) : zCall X 50 65 [.ref 14] H Q := by
  obtain ⟨h1, h2⟩ := hw
  rw [List.length_append] at h1 h2
  have h1 : H.1 15 1 = .int (nI (v.length + 1)) := h1
  have h3 : H.2.1 16 v.length = nI z := by
    rw [h2 v.length (by simp), z_app_last]
  have hR2 : zRf (zsF H 14 7 (.int (nI 0))) := zRf_sF hR (by decide)
  refine zgo_call 20 (by decide) (by decide +kernel) True.intro ?_
  simp (disch := first | assumption | omega) only [l_g0, l_gs, l_s0, l_s1, l_ss, l_sn0, l_sns, l_ki, l_kr, l_kl, l_ka, l_en, l_ei, l_er, t_I, t_R, t_W0, t_Wi, t_Wr, t_v0, t_v2, t_v3, i_p1, i_m1, t_k0, t_k1, k_some, k_none, true_and, and_true, ite_true, ite_false, Fin.isValue, l_t0, l_t1, l_ts, l_tn0, l_tns, l_el, t_L, t_Wl, t_v1, t_l0, t_l1, List.tail_cons, List.tail_nil, e_aload_n_0, e_arraylength0, e_bipush, e_getfield, e_goto0N, e_iadd, e_iaload0, e_icmp_ge0N, e_iconst, e_if_ge0N, e_if_lt0N, e_iload_n_1, e_iload_n_2, e_invv1_1, e_invv2_1, e_ireturn, e_istore_n_1, e_istore_n_2, e_isub, e_nop0N, e_putfield, e_return, b36_0, b41_0, b41_1, b41_2, b42_0, b42_1, b50_0, b50_1, ci36, ci41, ci42, ml36, ml41, ml42, q36_0, q41_0, q41_1, q41_2, q42_0, q42_1, q50_0, q50_1, zE50, zE36, zE41, zE42, o_0, o_1, o_2, a_2, w_2, o_3, a_3, w_3, o_4, o_5, a_5, w_5, o_6, o_7, a_7, w_7, o_8, o_9, a_9, w_9, o_10, o_11, a_11, w_11, o_12, o_13, a_13, w_13, o_14, o_15, o_16, a_16, w_16, o_17, a_17, w_17, o_18, a_18, w_18, o_19, a_19, w_19, o_20, a_20, w_20, o_21, o_22, a_22, w_22, o_23, o_24, a_24, w_24, o_25, a_25, w_25, o_50, o_51, a_51, w_51, o_52, a_52, w_52, o_53, a_53, w_53, o_54, a_54, w_54, o_55, a_55, w_55, o_56, a_56, w_56, o_57, a_57, w_57, o_58, a_58, w_58, o_59, a_59, w_59, o_60, a_60, w_60, o_61, a_61, w_61, o_62, a_62, w_62, o_63, a_63, w_63, o_64, a_64, w_64, o_rp, o_rs, a_rs, w_rs, r_0_0, r_0_1, r_0_2, r_0_3, r_0_4, r_0_5, r_0_6, r_0_7, r_0_12, r_1_3, r_4_0, r_4_1, r_6_0, r_8_0, r_10_2, r_12_2, r_14_0, r_14_1, r_14_2, r_14_3, r_14_4, r_14_5, r_15_2, r_21_0, r_23_0, r_50_1, r_50_5, r_50_6, r_50_7, r_50_8, r_50_10, r_50_11, r_50_12, r_50_13, r_50_14, r_50_17, r_50_18, r_50_21, r_50_23, r_rp, r_rs, h_Fs, h_FF, h_FI, h_FL, h_Is, h_II, h_IF, h_IL, h_Ls, h_LL, h_LF, h_LI, nI_ltT, nI_ltF, nI_leT, nI_leF, nI_eqT, nI_eqF, ng_ltT, ng_ltF, ng_leT, ng_leF, ng_eqF, ng_eqG, n_ltT, n_leT, n_ltF, n_leF, n_eqF, n_eqG, ng_inj, zix_nI, zinR_nI, nI_add, ↓reduceIte, true_or, or_true, or_self, not_true, not_false, Nat.reduceAdd, l_s0g, l_s1g, l_t0g, List.tail_cons, List.tail_nil, h1, h3, nI_sub, Nat.add_sub_cancel]
  exact hQ
theorem zSo_back {H : zHp} {S : zU} {ring cl : Bool} {m z : Nat} {v : List Nat} (hI : zIX H S) (hf : zSf H ring m cl) (hw : zSw H (v ++ [z])) (ha : zSa H S.1.1 S.1.2.1 S.1.2.2 ring v (v.length + 1)) : zscX H (zsF (zsF H 14 7 (.int (nI 0))) 15 1 (.int (nI v.length))) ∧ zSo (zsF (zsF H 14 7 (.int (nI 0))) 15 1 (.int (nI v.length))) S ring m v := by
  have hs : zsm (fun a => a = 14 ∨ a = 15) H (zsF (zsF H 14 7 (.int (nI 0))) 15 1 (.int (nI v.length))) := zsm_F (zsm_F zsm_rf (Or.inl rfl)) (Or.inr rfl)
  refine ⟨zscX_F (zscX_F (zscX_rf hI.1) (by decide) (by decide)) (by decide) (by decide), ⟨?_, ?_, ?_⟩, ⟨h_Fs _ _ _ _, fun j hj => ?_⟩, fun i hi => zSe_sm (ha i hi) hs (fun a h1 h2 => by omega)⟩
  · rw [h_FF _ _ _ _ _ _ (by omega), h_FF _ _ _ _ _ _ (by omega)]; exact hf.1
  · rw [h_FF _ _ _ _ _ _ (by omega), h_Fs]; rfl
  · rw [h_FF _ _ _ _ _ _ (by omega), h_FF _ _ _ _ _ _ (by omega)]; exact hf.2.2
  · rw [h_FI, h_FI, hw.2 j (by simp; omega), z_app_lt hj]
theorem x_greatestBehind {X : zX} {H : zHp} {i : Nat} {Q : Option Value → zHp → Prop} (hR : zRf H) (hi : i ≤ 64) (hQ : Q (some (.int (H.2.1 18 i))) H) : zCall X 52 65 [.ref 14, .int (nI i)] H Q := by
  refine zgo_call 20 (by decide) (by decide +kernel) True.intro ?_
  simp (disch := first | assumption | omega) only [l_g0, l_gs, l_s0, l_s1, l_ss, l_sn0, l_sns, l_ki, l_kr, l_kl, l_ka, l_en, l_ei, l_er, t_I, t_R, t_W0, t_Wi, t_Wr, t_v0, t_v2, t_v3, i_p1, i_m1, t_k0, t_k1, k_some, k_none, true_and, and_true, ite_true, ite_false, Fin.isValue, l_t0, l_t1, l_ts, l_tn0, l_tns, l_el, t_L, t_Wl, t_v1, t_l0, t_l1, List.tail_cons, List.tail_nil, e_aload_n_0, e_arraylength0, e_bipush, e_getfield, e_goto0N, e_iaload0, e_icmp_ge0N, e_if_lt0N, e_iload_n_1, e_ireturn, e_nop0N, b52_0, b52_1, b52_2, q52_0, q52_1, q52_2, zE52, o_0, o_1, o_2, a_2, w_2, o_3, a_3, w_3, o_4, o_5, a_5, w_5, o_6, o_7, a_7, w_7, o_8, o_9, a_9, w_9, o_10, o_11, a_11, w_11, o_12, o_13, a_13, w_13, o_14, o_15, o_16, a_16, w_16, o_17, a_17, w_17, o_18, a_18, w_18, o_19, a_19, w_19, o_20, a_20, w_20, o_21, o_22, a_22, w_22, o_23, o_24, a_24, w_24, o_25, a_25, w_25, o_50, o_51, a_51, w_51, o_52, a_52, w_52, o_53, a_53, w_53, o_54, a_54, w_54, o_55, a_55, w_55, o_56, a_56, w_56, o_57, a_57, w_57, o_58, a_58, w_58, o_59, a_59, w_59, o_60, a_60, w_60, o_61, a_61, w_61, o_62, a_62, w_62, o_63, a_63, w_63, o_64, a_64, w_64, o_rp, o_rs, a_rs, w_rs, r_0_0, r_0_1, r_0_2, r_0_3, r_0_4, r_0_5, r_0_6, r_0_7, r_0_12, r_1_3, r_4_0, r_4_1, r_6_0, r_8_0, r_10_2, r_12_2, r_14_0, r_14_1, r_14_2, r_14_3, r_14_4, r_14_5, r_15_2, r_21_0, r_23_0, r_50_1, r_50_5, r_50_6, r_50_7, r_50_8, r_50_10, r_50_11, r_50_12, r_50_13, r_50_14, r_50_17, r_50_18, r_50_21, r_50_23, r_rp, r_rs, h_Fs, h_FF, h_FI, h_FL, h_Is, h_II, h_IF, h_IL, h_Ls, h_LL, h_LF, h_LI, nI_ltT, nI_ltF, nI_leT, nI_leF, nI_eqT, nI_eqF, ng_ltT, ng_ltF, ng_leT, ng_leF, ng_eqF, ng_eqG, n_ltT, n_leT, n_ltF, n_leF, n_eqF, n_eqG, ng_inj, zix_nI, zinR_nI, nI_add, ↓reduceIte, true_or, or_true, or_self, not_true, not_false, Nat.reduceAdd, l_s0g, l_s1g, l_t0g, List.tail_cons, List.tail_nil]
  exact hQ
/-- a step is put behind the row, and its corner entered -/
theorem zSo_add {H H2 : zHp} {S : zU} {ring : Bool} {m x : Nat} {v : List Nat} (hI : zIX H S) (hs : zSo H S ring m v) (h2 : zsm (fun a => 17 ≤ a ∧ a ≤ 20) (zsF (zsI H 16 v.length (nI x)) 15 1 (.int (nI (v.length + 1)))) H2) (ha : zSa H2 S.1.1 S.1.2.1 S.1.2.2 ring (v ++ [x]) (v.length + 2)) : zscX H H2 ∧ zSo H2 S ring m (v ++ [x]) := by
  have s0 : zscX H (zsF (zsI H 16 v.length (nI x)) 15 1 (.int (nI (v.length + 1)))) := zscX_F (zscX_I (zscX_rf hI.1) (by decide)) (by decide) (by decide)
  have s1 : zscX (zsF (zsI H 16 v.length (nI x)) 15 1 (.int (nI (v.length + 1)))) H2 := ⟨zsm_wk h2 (fun a h => by omega), zRf_sm s0.2 h2 (by decide +kernel)⟩
  refine ⟨zscX_tr s0 s1, zSf_sm (zSf_sm hs.1 (T := fun a => a = 15 ∨ a = 16) (zsm_F (zsm_I zsm_rf (Or.inr rfl)) (Or.inl rfl)) (by omega)) h2 (by omega), zSw_sm (H := zsF (zsI H 16 v.length (nI x)) 15 1 (.int (nI (v.length + 1)))) ⟨?_, fun j hj => ?_⟩ h2 (by omega) (by omega), ?_⟩
  · rw [h_Fs, List.length_append]; rfl
  · rw [List.length_append] at hj
    rw [h_FI]
    by_cases e : j = v.length
    · subst e; rw [h_Is, z_app_last]
    · have hj : j < v.length := by simp at hj; omega
      rw [h_II _ _ _ _ _ _ (by omega), hs.2.1.2 j hj, z_app_lt hj]
  · rw [List.length_append]
    exact ha
theorem zSc_add {H : zHp} {S : zU} {ring : Bool} {m x : Nat} {v : List Nat} (hI : zIX H S) (hs : zSo H S ring m v) : zscX H (zsF (zsI (zsF H 14 7 (.int (nI 1))) 16 v.length (nI x)) 15 1 (.int (nI (v.length + 1)))) ∧ zSc (zsF (zsI (zsF H 14 7 (.int (nI 1))) 16 v.length (nI x)) 15 1 (.int (nI (v.length + 1)))) S ring m v x := by
  have hm : zsm (fun a => a = 14 ∨ a = 15 ∨ a = 16) H (zsF (zsI (zsF H 14 7 (.int (nI 1))) 16 v.length (nI x)) 15 1 (.int (nI (v.length + 1)))) := zsm_F (zsm_I (zsm_F zsm_rf (Or.inl rfl)) (Or.inr (Or.inr rfl))) (Or.inr (Or.inl rfl))
  refine ⟨zscX_F (zscX_I (zscX_F (zscX_rf hI.1) (by decide) (by decide)) (by decide)) (by decide) (by decide), ⟨?_, ?_, ?_⟩, ⟨?_, fun j hj => ?_⟩, fun i hi => zSe_sm (hs.2.2 i hi) hm (fun a h1 h2 => by omega)⟩
  · rw [h_FF _ _ _ _ _ _ (by omega), h_IF, h_FF _ _ _ _ _ _ (by omega)]; exact hs.1.1
  · rw [h_FF _ _ _ _ _ _ (by omega), h_IF, h_Fs]; rfl
  · rw [h_FF _ _ _ _ _ _ (by omega), h_IF, h_FF _ _ _ _ _ _ (by omega)]; exact hs.1.2.2
  · rw [h_Fs, List.length_append]; rfl
  · rw [List.length_append] at hj
    rw [h_FI]
    by_cases e : j = v.length
    · subst e; rw [h_Is, z_app_last]
    · have hj : j < v.length := by simp at hj; omega
      rw [h_II _ _ _ _ _ _ (by omega), h_FI, hs.2.1.2 j hj, z_app_lt hj]
theorem zSo_cl {H : zHp} {S : zU} {ring : Bool} {m : Nat} {v : List Nat} (hI : zIX H S) (hs : zSo H S ring m v) : zscX H (zsF H 14 7 (.int (nI 0))) ∧ zSo (zsF H 14 7 (.int (nI 0))) S ring m v := by
  have hm : zsm (fun a => a = 14) H (zsF H 14 7 (.int (nI 0))) := zsm_F zsm_rf rfl
  refine ⟨zscX_F (zscX_rf hI.1) (by decide) (by decide), ⟨?_, ?_, ?_⟩, zSw_sm hs.2.1 hm (by omega) (by omega), fun i hi => zSe_sm (hs.2.2 i hi) hm (fun a h1 h2 => by omega)⟩
  · rw [h_FF _ _ _ _ _ _ (by omega)]; exact hs.1.1
  · rw [h_Fs]; rfl
  · rw [h_FF _ _ _ _ _ _ (by omega)]; exact hs.1.2.2
