/-! classes: the class -/
def zrn (stp : zSta → Option zSta) (up : zAc → zSta → Option zAc) (n : Nat) (s : zSta) (a : zAc) (t : Nat) : zAc × Nat × Bool := match up a s with
  | none => (a, t, false)
  | some a' => zrun stp up n s a' t
theorem zrn_no {stp : zSta → Option zSta} {up : zAc → zSta → Option zAc} {n : Nat} {s : zSta} {a : zAc} {t : Nat} (h : up a s = none) : zrn stp up n s a t = (a, t, false) := by
  unfold zrn
  rw [h]
theorem zrn_yes {stp : zSta → Option zSta} {up : zAc → zSta → Option zAc} {n : Nat} {s : zSta} {a a' : zAc} {t : Nat} (h : up a s = some a') : zrn stp up n s a t = zrun stp up n s a' t := by
  unfold zrn
  rw [h]
theorem zrun_rn {stp : zSta → Option zSta} {up : zAc → zSta → Option zAc} {n : Nat} {s s' : zSta} {a : zAc} {t : Nat} (h : stp s = some s') : zrun stp up (n + 1) s a t = zrn stp up n s' a (t + 1) := by
  cases h2 : up a s' with
  | none => rw [zrun_no h h2, zrn_no h2]
  | some a' => rw [zrun_s h h2, zrn_yes h2]
theorem zupd_200 {LF : List Nat → List Nat} {ring two : Bool} {m : Nat} {a a' : zAc} {s : zSta} (h : zupd LF ring m two a s = some a') (ha : a.2.2.length ≤ 200) : a'.2.2.length ≤ 200 := by
  unfold zupd at h
  split at h
  · cases h; exact ha
  · split at h
    · split at h
      · split at h
        · cases h
        · cases h
          show (a.2.2 ++ [s.1]).length ≤ 200
          rw [List.length_append]
          show a.2.2.length + 1 ≤ 200
          omega
      · cases h; exact ha
    · cases h; exact ha
theorem x_gath_loop {X : zX} {H : zHp} {S : zU} {m kn ga : Nat} {ring : Bool} {Q : Option Value → zHp → Prop} (hS : zUok S) (hm : m ≤ 64) (hkg : zkg kn ga) :
    ∀ (r t : Nat) (s : zSta) (a : zAc) (H' : zHp), t + r = 20000 → zfX H H' → zIX H' (zUn S t) → zSS H' S ring m s → zGa H' kn ga m a.2.2 → a.2.2.length ≤ 200 →
    (∀ res, res = zrn (znt (zhw S.1.1 S.1.2.1 S.1.2.2 ring) S.1.1 m) (zupd (zLF ring) ring m true) r s a t → ∀ H2, zfX H H2 → zIX H2 (zUn S res.2.1) → (res.2.2 = true → zGa H2 kn ga m res.1.2.2) → Q (some (.int (zb1 res.2.2))) H2) →
    zAt X 112 65 65 1 [.ref 0, .int (zb1 ring), .int (nI m), .int (nI t)] [] H' Q := by
  intro r
  induction r with
  | zero =>
    intro t s a H' htn hf hI hs hG h200 hQ
    refine x_gath_1 hS hm (by omega) hkg hf hI hs hG h200 (fun e H3 l1 l2 => ?_) (fun a' e1 e H3 l1 l2 l3 => ?_) (fun a' e1 s' e H3 l1 l2 l3 l4 => ?_)
    · have hQ := hQ _ rfl H3
      rw [zrn_no e] at hQ
      exact hQ l1 l2 (fun h => by cases h)
    · have hQ := hQ _ rfl H3
      rw [zrn_yes e1, zrun_end e] at hQ
      exact hQ l1 l2 (fun _ => l3)
    · have hQ := hQ _ rfl H3
      rw [zrn_yes e1, zrun_0 e] at hQ
      have e2 : min (t + 1) 20000 = t := by omega
      rw [e2] at l2
      have hQ := hQ l1 l2 (fun h => by cases h)
      have e3 : zb1 false = nI 0 := rfl
      dsimp only at hQ
      rw [e3] at hQ
      refine zgo_at 20 ?_
      simp (disch := first | assumption | omega) only [l_g0, l_gs, l_s0, l_s1, l_ss, l_sn0, l_sns, l_ki, l_kr, l_kl, l_ka, l_en, l_ei, l_er, t_I, t_R, t_W0, t_Wi, t_Wr, t_v0, t_v2, t_v3, i_p1, i_m1, t_k0, t_k1, k_some, k_none, true_and, and_true, ite_true, ite_false, Fin.isValue, l_t0, l_t1, l_ts, l_tn0, l_tns, l_el, t_L, t_Wl, t_v1, t_l0, t_l1, List.tail_cons, List.tail_nil, e_aload_n_0, e_areturn, e_getfield, e_goto0N, e_goto1N, e_icmp_gt0N, e_icmp_lt0N, e_iconst, e_if_eq0N, e_if_ne0N, e_iinc, e_iload_n_1, e_iload_n_2, e_iload_n_3, e_invv1_1, e_invv2_0, e_invv2_1, e_invv3_0, e_ireturn, e_istore_n_3, e_nop0N, e_nop1N, e_putfield, e_return, e_sipush, b112_0, b112_1, b112_2, b112_3, b112_4, b112_5, b20_0, b22_0, b22_1, b22_2, b47_0, ci109, ci110, ci113, ci20, ci22, ci23, ci46, ci47, ml20, ml22, ml47, q112_0, q112_1, q112_2, q112_3, q112_4, q112_5, q20_0, q22_0, q22_1, q22_2, q47_0, zE112, zE20, zE47, zE22, o_0, o_1, o_2, a_2, w_2, o_3, a_3, w_3, o_4, o_5, a_5, w_5, o_6, o_7, a_7, w_7, o_8, o_9, a_9, w_9, o_10, o_11, a_11, w_11, o_12, o_13, a_13, w_13, o_14, o_15, o_16, a_16, w_16, o_17, a_17, w_17, o_18, a_18, w_18, o_19, a_19, w_19, o_20, a_20, w_20, o_21, o_22, a_22, w_22, o_23, o_24, a_24, w_24, o_25, a_25, w_25, o_50, o_51, a_51, w_51, o_52, a_52, w_52, o_53, a_53, w_53, o_54, a_54, w_54, o_55, a_55, w_55, o_56, a_56, w_56, o_57, a_57, w_57, o_58, a_58, w_58, o_59, a_59, w_59, o_60, a_60, w_60, o_61, a_61, w_61, o_62, a_62, w_62, o_63, a_63, w_63, o_64, a_64, w_64, o_rp, o_rs, a_rs, w_rs, r_0_0, r_0_1, r_0_2, r_0_3, r_0_4, r_0_5, r_0_6, r_0_7, r_0_12, r_1_3, r_4_0, r_4_1, r_6_0, r_8_0, r_10_2, r_12_2, r_14_0, r_14_1, r_14_2, r_14_3, r_14_4, r_14_5, r_15_2, r_21_0, r_23_0, r_50_1, r_50_5, r_50_6, r_50_7, r_50_8, r_50_10, r_50_11, r_50_12, r_50_13, r_50_14, r_50_17, r_50_18, r_50_21, r_50_23, r_rp, r_rs, h_Fs, h_FF, h_FI, h_FL, h_Is, h_II, h_IF, h_IL, h_Ls, h_LL, h_LF, h_LI, nI_ltT, nI_ltF, nI_leT, nI_leF, nI_eqT, nI_eqF, ng_ltT, ng_ltF, ng_leT, ng_leF, ng_eqF, ng_eqG, n_ltT, n_leT, n_ltF, n_leF, n_eqF, n_eqG, ng_inj, zix_nI, zinR_nI, nI_add, ↓reduceIte, true_or, or_true, or_self, not_true, not_false, Nat.reduceAdd, l_s0g, l_s1g, l_t0g, List.tail_cons, List.tail_nil, t_v2]
      exact hQ
  | succ r ih =>
    intro t s a H' htn hf hI hs hG h200 hQ
    refine x_gath_1 hS hm (by omega) hkg hf hI hs hG h200 (fun e H3 l1 l2 => ?_) (fun a' e1 e H3 l1 l2 l3 => ?_) (fun a' e1 s' e H3 l1 l2 l3 l4 => ?_)
    · have hQ := hQ _ rfl H3
      rw [zrn_no e] at hQ
      exact hQ l1 l2 (fun h => by cases h)
    · have hQ := hQ _ rfl H3
      rw [zrn_yes e1, zrun_end e] at hQ
      exact hQ l1 l2 (fun _ => l3)
    · have e2 : min (t + 1) 20000 = t + 1 := by omega
      rw [e2] at l2
      refine ih (t + 1) s' a' H3 (by omega) l1 l2 l4 l3 (zupd_200 e1 h200) (fun res e3 => hQ res ?_)
      rw [zrn_yes e1, zrun_rn e]
      exact e3
/-- what is gathered -/
noncomputable def zgres (S : zU) (ring : Bool) (m : Nat) : zAc × Nat × Bool := zrn (znt (zhw S.1.1 S.1.2.1 S.1.2.2 ring) S.1.1 m) (zupd (zLF ring) ring m true) 20000 ([], 1) ([], 0, []) 0
theorem x_gather {X : zX} {H : zHp} {S : zU} {m kn ga : Nat} {ring : Bool} {Q : Option Value → zHp → Prop} (hI : zIX H S) (hS : zUok S) (hm : m ≤ 64) (hkg : zkg kn ga) (h8 : H.1 0 8 = .ref kn) (h9 : H.1 0 9 = .ref ga) (hB : zbit S.1.2.2 0 = false)
    (hQ : ∀ H2, zfX H H2 → zIX H2 (zUn S (zgres S ring m).2.1) → ((zgres S ring m).2.2 = true → zGa H2 kn ga m (zgres S ring m).1.2.2) → Q (some (.int (zb1 (zgres S ring m).2.2))) H2) :
    zCall X 112 65 [.ref 0, .int (zb1 ring), .int (nI m)] H Q := by
  have hR := hI.1
  obtain ⟨f1, f2, f3, f4⟩ := zga_ok hkg
  have hga : 21 ≤ ga ∧ ga ≤ 23 := by rcases hkg with ⟨-, h⟩ | ⟨-, h⟩ <;> omega
  have hI0 : zIX (zsF H 0 10 (.int (nI 0))) (zUn S 0) := zIX_tr (nI 0) hI
  have hR1 : zRf (zsF (zsF (zsF H 0 10 (.int (nI 0))) ga 1 (.int (nI 0))) ga 2 (.int (nI m))) := zga_Rf hkg (zga_Rf hkg hI0.1 (by decide)) (by decide)
  have hI1 : zIX (zsF (zsF (zsF H 0 10 (.int (nI 0))) ga 1 (.int (nI 0))) ga 2 (.int (nI m))) (zUn S 0) := zIX_ga hI0 hkg (by rw [h_FF _ _ _ _ _ _ (by omega)]; exact h8) (zsm_F (zsm_F zsm_rf (Or.inl rfl)) (Or.inl rfl)) hR1
  have hs1 : zfX H (zsF (zsF (zsF H 0 10 (.int (nI 0))) ga 1 (.int (nI 0))) ga 2 (.int (nI m))) := zsm_F (zsm_F (zsm_F zsm_rf (by omega)) (by omega)) (by omega)
  have hG1 : zGa (zsF (zsF (zsF H 0 10 (.int (nI 0))) ga 1 (.int (nI 0))) ga 2 (.int (nI m))) kn ga m [] := by
    refine ⟨?_, ?_, ?_, ?_, fun i s hi => absurd hi (by simp)⟩
    · simp (disch := omega) only [h_FF]; exact h8
    · simp (disch := omega) only [h_FF]; exact h9
    · simp (disch := omega) only [h_FF, h_Fs]; rfl
    · rw [h_Fs]
  refine zgo_call 20 (by decide) (by decide +kernel) True.intro ?_
  simp (disch := first | assumption | omega) only [l_g0, l_gs, l_s0, l_s1, l_ss, l_sn0, l_sns, l_ki, l_kr, l_kl, l_ka, l_en, l_ei, l_er, t_I, t_R, t_W0, t_Wi, t_Wr, t_v0, t_v2, t_v3, i_p1, i_m1, t_k0, t_k1, k_some, k_none, true_and, and_true, ite_true, ite_false, Fin.isValue, l_t0, l_t1, l_ts, l_tn0, l_tns, l_el, t_L, t_Wl, t_v1, t_l0, t_l1, List.tail_cons, List.tail_nil, e_aload_n_0, e_areturn, e_getfield, e_goto0N, e_goto1N, e_icmp_gt0N, e_icmp_lt0N, e_iconst, e_if_eq0N, e_if_ne0N, e_iinc, e_iload_n_1, e_iload_n_2, e_iload_n_3, e_invv1_1, e_invv2_0, e_invv2_1, e_invv3_0, e_ireturn, e_istore_n_3, e_nop0N, e_nop1N, e_putfield, e_return, e_sipush, b112_0, b112_1, b112_2, b112_3, b112_4, b112_5, b20_0, b22_0, b22_1, b22_2, b47_0, ci109, ci110, ci113, ci20, ci22, ci23, ci46, ci47, ml20, ml22, ml47, q112_0, q112_1, q112_2, q112_3, q112_4, q112_5, q20_0, q22_0, q22_1, q22_2, q47_0, zE112, zE20, zE47, zE22, o_0, o_1, o_2, a_2, w_2, o_3, a_3, w_3, o_4, o_5, a_5, w_5, o_6, o_7, a_7, w_7, o_8, o_9, a_9, w_9, o_10, o_11, a_11, w_11, o_12, o_13, a_13, w_13, o_14, o_15, o_16, a_16, w_16, o_17, a_17, w_17, o_18, a_18, w_18, o_19, a_19, w_19, o_20, a_20, w_20, o_21, o_22, a_22, w_22, o_23, o_24, a_24, w_24, o_25, a_25, w_25, o_50, o_51, a_51, w_51, o_52, a_52, w_52, o_53, a_53, w_53, o_54, a_54, w_54, o_55, a_55, w_55, o_56, a_56, w_56, o_57, a_57, w_57, o_58, a_58, w_58, o_59, a_59, w_59, o_60, a_60, w_60, o_61, a_61, w_61, o_62, a_62, w_62, o_63, a_63, w_63, o_64, a_64, w_64, o_rp, o_rs, a_rs, w_rs, r_0_0, r_0_1, r_0_2, r_0_3, r_0_4, r_0_5, r_0_6, r_0_7, r_0_12, r_1_3, r_4_0, r_4_1, r_6_0, r_8_0, r_10_2, r_12_2, r_14_0, r_14_1, r_14_2, r_14_3, r_14_4, r_14_5, r_15_2, r_21_0, r_23_0, r_50_1, r_50_5, r_50_6, r_50_7, r_50_8, r_50_10, r_50_11, r_50_12, r_50_13, r_50_14, r_50_17, r_50_18, r_50_21, r_50_23, r_rp, r_rs, h_Fs, h_FF, h_FI, h_FL, h_Is, h_II, h_IF, h_IL, h_Ls, h_LL, h_LF, h_LI, nI_ltT, nI_ltF, nI_leT, nI_leF, nI_eqT, nI_eqF, ng_ltT, ng_ltF, ng_leT, ng_leF, ng_eqF, ng_eqG, n_ltT, n_leT, n_ltF, n_leF, n_eqF, n_eqG, ng_inj, zix_nI, zinR_nI, nI_add, ↓reduceIte, true_or, or_true, or_self, not_true, not_false, Nat.reduceAdd, l_s0g, l_s1g, l_t0g, List.tail_cons, List.tail_nil, h9, f1]
  refine x_begin hI1 (zUn_U hS 0) hm hB (fun H' k1 k2 => ?_)
  have lp := x_gath_loop (X := X) (H := H) (S := S) (m := m) (ring := ring) (Q := Q) hS hm hkg 20000 0 ([], 1) ([], 0, []) H' (by omega) (zsm_tr hs1 (zscX_fX k1)) (zscX_IX hI1 k1) (zSS_U k2 rfl) (zGa_sm hkg hG1 k1.1 ⟨by rw [(k1.1 0 (by omega)).1], by rw [(k1.1 0 (by omega)).1]⟩ (fun a h1 h2 => by omega)) (by decide) (fun res e => by
    have e : res = zgres S ring m := e
    subst e
    exact hQ)
  simp (disch := first | assumption | omega) only [l_g0, l_gs, l_s0, l_s1, l_ss, l_sn0, l_sns, l_ki, l_kr, l_kl, l_ka, l_en, l_ei, l_er, t_I, t_R, t_W0, t_Wi, t_Wr, t_v0, t_v2, t_v3, i_p1, i_m1, t_k0, t_k1, k_some, k_none, true_and, and_true, ite_true, ite_false, Fin.isValue, l_t0, l_t1, l_ts, l_tn0, l_tns, l_el, t_L, t_Wl, t_v1, t_l0, t_l1, List.tail_cons, List.tail_nil, e_aload_n_0, e_areturn, e_getfield, e_goto0N, e_goto1N, e_icmp_gt0N, e_icmp_lt0N, e_iconst, e_if_eq0N, e_if_ne0N, e_iinc, e_iload_n_1, e_iload_n_2, e_iload_n_3, e_invv1_1, e_invv2_0, e_invv2_1, e_invv3_0, e_ireturn, e_istore_n_3, e_nop0N, e_nop1N, e_putfield, e_return, e_sipush, b112_0, b112_1, b112_2, b112_3, b112_4, b112_5, b20_0, b22_0, b22_1, b22_2, b47_0, ci109, ci110, ci113, ci20, ci22, ci23, ci46, ci47, ml20, ml22, ml47, q112_0, q112_1, q112_2, q112_3, q112_4, q112_5, q20_0, q22_0, q22_1, q22_2, q47_0, zE112, zE20, zE47, zE22, o_0, o_1, o_2, a_2, w_2, o_3, a_3, w_3, o_4, o_5, a_5, w_5, o_6, o_7, a_7, w_7, o_8, o_9, a_9, w_9, o_10, o_11, a_11, w_11, o_12, o_13, a_13, w_13, o_14, o_15, o_16, a_16, w_16, o_17, a_17, w_17, o_18, a_18, w_18, o_19, a_19, w_19, o_20, a_20, w_20, o_21, o_22, a_22, w_22, o_23, o_24, a_24, w_24, o_25, a_25, w_25, o_50, o_51, a_51, w_51, o_52, a_52, w_52, o_53, a_53, w_53, o_54, a_54, w_54, o_55, a_55, w_55, o_56, a_56, w_56, o_57, a_57, w_57, o_58, a_58, w_58, o_59, a_59, w_59, o_60, a_60, w_60, o_61, a_61, w_61, o_62, a_62, w_62, o_63, a_63, w_63, o_64, a_64, w_64, o_rp, o_rs, a_rs, w_rs, r_0_0, r_0_1, r_0_2, r_0_3, r_0_4, r_0_5, r_0_6, r_0_7, r_0_12, r_1_3, r_4_0, r_4_1, r_6_0, r_8_0, r_10_2, r_12_2, r_14_0, r_14_1, r_14_2, r_14_3, r_14_4, r_14_5, r_15_2, r_21_0, r_23_0, r_50_1, r_50_5, r_50_6, r_50_7, r_50_8, r_50_10, r_50_11, r_50_12, r_50_13, r_50_14, r_50_17, r_50_18, r_50_21, r_50_23, r_rp, r_rs, h_Fs, h_FF, h_FI, h_FL, h_Is, h_II, h_IF, h_IL, h_Ls, h_LL, h_LF, h_LI, nI_ltT, nI_ltF, nI_leT, nI_leF, nI_eqT, nI_eqF, ng_ltT, ng_ltF, ng_leT, ng_leF, ng_eqF, ng_eqG, n_ltT, n_leT, n_ltF, n_leF, n_eqF, n_eqG, ng_inj, zix_nI, zinR_nI, nI_add, ↓reduceIte, true_or, or_true, or_self, not_true, not_false, Nat.reduceAdd, l_s0g, l_s1g, l_t0g, List.tail_cons, List.tail_nil]
  exact lp
/-- the state with new classes -/
def zUc (S : zU) (t m : Nat) (cs : List (List Nat)) : zU := (S.1, S.2.1, S.2.2.1, (nI t, lN cs.length), (m, cs))
theorem zIX_cls {H : zHp} {S : zU} {t m kn ga : Nat} {cs : List (List Nat)} (hI : zIX H (zUn S t)) (hkg : zkg kn ga) (hG : zIf H ga m cs) : zIX (zsF (zsF (zsF H 0 8 (.ref ga)) 0 9 (.ref kn)) 0 11 (.long (lN cs.length))) (zUc S t m cs) := by
  have hR : zRf (zsF (zsF (zsF H 0 8 (.ref ga)) 0 9 (.ref kn)) 0 11 (.long (lN cs.length))) := zRf_sF (zRf_sF (zRf_sF hI.1 (by decide)) (by decide)) (by decide)
  have hs : zsm (fun a => a = 0) H (zsF (zsF (zsF H 0 8 (.ref ga)) 0 9 (.ref kn)) 0 11 (.long (lN cs.length))) := zsm_F (zsm_F (zsm_F zsm_rf rfl) rfl) rfl
  have hga : 21 ≤ ga ∧ ga ≤ 23 := by rcases hkg with ⟨-, h⟩ | ⟨-, h⟩ <;> omega
  obtain ⟨-, g2, g3, g4, ⟨g5, g6⟩, ⟨g7, g8⟩, -⟩ := hI
  refine ⟨hR, ?_, g3, fun p hp => ?_, ⟨g5, ?_⟩, ⟨?_, h_Fs _ _ _ _⟩, ga, kn, ?_, ?_, ?_, ?_⟩
  · rw [(hs 1 (by omega)).1]; exact g2
  · have := zrp_lt hp
    exact zIr_same (g4 p hp) (hs _ (by omega)).1 (hs _ (by omega)).2.1
  · simp (disch := omega) only [h_FF]; exact g6
  · simp (disch := omega) only [h_FF]; exact g7
  · rcases hkg with ⟨h1, h2⟩ | ⟨h1, h2⟩ <;> omega
  · simp (disch := omega) only [h_FF, h_Fs]
  · simp (disch := omega) only [h_FF, h_Fs]
  · exact zIf_same hG (hs _ (by omega)).1 (hs _ (by omega)).2.1
theorem x_classes_ok {X : zX} {H : zHp} {S : zU} {m : Nat} {ring : Bool} {Q : Option Value → zHp → Prop} (hI : zIX H S) (hS : zUok S) (hm : m ≤ 64) (hB : S.1.2.2 = lN 0) (h200 : (zgres S ring m).1.2.2.length ≤ 200)
    (hQ0 : (zgres S ring m).2.2 = false → ∀ H2, zfX H H2 → zIX H2 (zUn S (zgres S ring m).2.1) → Q (some (.int (-nI 6))) H2)
    (hQ1 : (zgres S ring m).2.2 = true → ∀ H2, zfX H H2 → zIX H2 (zUc S (zgres S ring m).2.1 m (zgres S ring m).1.2.2) → Q (some (.int (nI 1))) H2) :
    zCall X 96 65 [.ref 0, .int (zb1 ring), .int (nI m)] H Q := by
  have hR := hI.1
  have g := hI.2.1
  have hB0 : zbit S.1.2.2 0 = false := by rw [hB]; exact zbit_0 0
  obtain ⟨kn, ga, hkg, h8, h9, -⟩ := id hI.2.2.2.2.2.2
  refine zgo_call 20 (by decide) (by decide +kernel) True.intro ?_
  simp (disch := first | assumption | omega) only [l_g0, l_gs, l_s0, l_s1, l_ss, l_sn0, l_sns, l_ki, l_kr, l_kl, l_ka, l_en, l_ei, l_er, t_I, t_R, t_W0, t_Wi, t_Wr, t_v0, t_v2, t_v3, i_p1, i_m1, t_k0, t_k1, k_some, k_none, true_and, and_true, ite_true, ite_false, Fin.isValue, l_t0, l_t1, l_ts, l_tn0, l_tns, l_el, t_L, t_Wl, t_v1, t_l0, t_l1, List.tail_cons, List.tail_nil, e_aload_n_0, e_aload_n_3, e_astore_n_3, e_bipush, e_getfield, e_goto0N, e_i2l, e_icmp_le0N, e_iconst, e_if_lt0N, e_if_ne0N, e_iload_n_1, e_iload_n_2, e_invv1_1, e_invv3_0, e_ireturn, e_lcmp, e_lconst, e_nop0N, e_putfield, b13_0, b13_1, b13_2, b21_0, b96_0, b96_1, b96_2, b96_3, b96_4, ci112, ci13, ci21, ml13, ml21, q13_0, q13_1, q13_2, q21_0, q96_0, q96_1, q96_2, q96_3, q96_4, zE96, zE13, zE21, o_0, o_1, o_2, a_2, w_2, o_3, a_3, w_3, o_4, o_5, a_5, w_5, o_6, o_7, a_7, w_7, o_8, o_9, a_9, w_9, o_10, o_11, a_11, w_11, o_12, o_13, a_13, w_13, o_14, o_15, o_16, a_16, w_16, o_17, a_17, w_17, o_18, a_18, w_18, o_19, a_19, w_19, o_20, a_20, w_20, o_21, o_22, a_22, w_22, o_23, o_24, a_24, w_24, o_25, a_25, w_25, o_50, o_51, a_51, w_51, o_52, a_52, w_52, o_53, a_53, w_53, o_54, a_54, w_54, o_55, a_55, w_55, o_56, a_56, w_56, o_57, a_57, w_57, o_58, a_58, w_58, o_59, a_59, w_59, o_60, a_60, w_60, o_61, a_61, w_61, o_62, a_62, w_62, o_63, a_63, w_63, o_64, a_64, w_64, o_rp, o_rs, a_rs, w_rs, r_0_0, r_0_1, r_0_2, r_0_3, r_0_4, r_0_5, r_0_6, r_0_7, r_0_12, r_1_3, r_4_0, r_4_1, r_6_0, r_8_0, r_10_2, r_12_2, r_14_0, r_14_1, r_14_2, r_14_3, r_14_4, r_14_5, r_15_2, r_21_0, r_23_0, r_50_1, r_50_5, r_50_6, r_50_7, r_50_8, r_50_10, r_50_11, r_50_12, r_50_13, r_50_14, r_50_17, r_50_18, r_50_21, r_50_23, r_rp, r_rs, h_Fs, h_FF, h_FI, h_FL, h_Is, h_II, h_IF, h_IL, h_Ls, h_LL, h_LF, h_LI, nI_ltT, nI_ltF, nI_leT, nI_leF, nI_eqT, nI_eqF, ng_ltT, ng_ltF, ng_leT, ng_leF, ng_eqF, ng_eqG, n_ltT, n_leT, n_ltF, n_leF, n_eqF, n_eqG, ng_inj, zix_nI, zinR_nI, nI_add, ↓reduceIte, true_or, or_true, or_self, not_true, not_false, Nat.reduceAdd, l_s0g, l_s1g, l_t0g, List.tail_cons, List.tail_nil, g, hB, zcmp_eq]
  refine x_gather hI hS hm hkg h8 h9 hB0 (fun H2 k1 k2 k3 => ?_)
  cases hz : (zgres S ring m).2.2
  · have hQ := hQ0 hz H2 k1 k2
    simp (disch := first | assumption | omega) only [l_g0, l_gs, l_s0, l_s1, l_ss, l_sn0, l_sns, l_ki, l_kr, l_kl, l_ka, l_en, l_ei, l_er, t_I, t_R, t_W0, t_Wi, t_Wr, t_v0, t_v2, t_v3, i_p1, i_m1, t_k0, t_k1, k_some, k_none, true_and, and_true, ite_true, ite_false, Fin.isValue, l_t0, l_t1, l_ts, l_tn0, l_tns, l_el, t_L, t_Wl, t_v1, t_l0, t_l1, List.tail_cons, List.tail_nil, e_aload_n_0, e_aload_n_3, e_astore_n_3, e_bipush, e_getfield, e_goto0N, e_i2l, e_icmp_le0N, e_iconst, e_if_lt0N, e_if_ne0N, e_iload_n_1, e_iload_n_2, e_invv1_1, e_invv3_0, e_ireturn, e_lcmp, e_lconst, e_nop0N, e_putfield, b13_0, b13_1, b13_2, b21_0, b96_0, b96_1, b96_2, b96_3, b96_4, ci112, ci13, ci21, ml13, ml21, q13_0, q13_1, q13_2, q21_0, q96_0, q96_1, q96_2, q96_3, q96_4, zE96, zE13, zE21, o_0, o_1, o_2, a_2, w_2, o_3, a_3, w_3, o_4, o_5, a_5, w_5, o_6, o_7, a_7, w_7, o_8, o_9, a_9, w_9, o_10, o_11, a_11, w_11, o_12, o_13, a_13, w_13, o_14, o_15, o_16, a_16, w_16, o_17, a_17, w_17, o_18, a_18, w_18, o_19, a_19, w_19, o_20, a_20, w_20, o_21, o_22, a_22, w_22, o_23, o_24, a_24, w_24, o_25, a_25, w_25, o_50, o_51, a_51, w_51, o_52, a_52, w_52, o_53, a_53, w_53, o_54, a_54, w_54, o_55, a_55, w_55, o_56, a_56, w_56, o_57, a_57, w_57, o_58, a_58, w_58, o_59, a_59, w_59, o_60, a_60, w_60, o_61, a_61, w_61, o_62, a_62, w_62, o_63, a_63, w_63, o_64, a_64, w_64, o_rp, o_rs, a_rs, w_rs, r_0_0, r_0_1, r_0_2, r_0_3, r_0_4, r_0_5, r_0_6, r_0_7, r_0_12, r_1_3, r_4_0, r_4_1, r_6_0, r_8_0, r_10_2, r_12_2, r_14_0, r_14_1, r_14_2, r_14_3, r_14_4, r_14_5, r_15_2, r_21_0, r_23_0, r_50_1, r_50_5, r_50_6, r_50_7, r_50_8, r_50_10, r_50_11, r_50_12, r_50_13, r_50_14, r_50_17, r_50_18, r_50_21, r_50_23, r_rp, r_rs, h_Fs, h_FF, h_FI, h_FL, h_Is, h_II, h_IF, h_IL, h_Ls, h_LL, h_LF, h_LI, nI_ltT, nI_ltF, nI_leT, nI_leF, nI_eqT, nI_eqF, ng_ltT, ng_ltF, ng_leT, ng_leF, ng_eqF, ng_eqG, n_ltT, n_leT, n_ltF, n_leF, n_eqF, n_eqG, ng_inj, zix_nI, zinR_nI, nI_add, ↓reduceIte, true_or, or_true, or_self, not_true, not_false, Nat.reduceAdd, l_s0g, l_s1g, l_t0g, List.tail_cons, List.tail_nil, zb1_f]
    exact hQ
  · obtain ⟨q8, q9, qG⟩ := k3 hz
    have f1 := (zga_ok hkg).1
    have hR2 := k2.1
    have q1 := qG.1
    have hga : 21 ≤ ga ∧ ga ≤ 23 := by rcases hkg with ⟨-, h⟩ | ⟨-, h⟩ <;> omega
    have hQ := hQ1 hz _ (zsm_F (zsm_F (zsm_F k1 (by omega)) (by omega)) (by omega)) (zIX_cls k2 hkg qG)
    simp (disch := first | assumption | omega) only [l_g0, l_gs, l_s0, l_s1, l_ss, l_sn0, l_sns, l_ki, l_kr, l_kl, l_ka, l_en, l_ei, l_er, t_I, t_R, t_W0, t_Wi, t_Wr, t_v0, t_v2, t_v3, i_p1, i_m1, t_k0, t_k1, k_some, k_none, true_and, and_true, ite_true, ite_false, Fin.isValue, l_t0, l_t1, l_ts, l_tn0, l_tns, l_el, t_L, t_Wl, t_v1, t_l0, t_l1, List.tail_cons, List.tail_nil, e_aload_n_0, e_aload_n_3, e_astore_n_3, e_bipush, e_getfield, e_goto0N, e_i2l, e_icmp_le0N, e_iconst, e_if_lt0N, e_if_ne0N, e_iload_n_1, e_iload_n_2, e_invv1_1, e_invv3_0, e_ireturn, e_lcmp, e_lconst, e_nop0N, e_putfield, b13_0, b13_1, b13_2, b21_0, b96_0, b96_1, b96_2, b96_3, b96_4, ci112, ci13, ci21, ml13, ml21, q13_0, q13_1, q13_2, q21_0, q96_0, q96_1, q96_2, q96_3, q96_4, zE96, zE13, zE21, o_0, o_1, o_2, a_2, w_2, o_3, a_3, w_3, o_4, o_5, a_5, w_5, o_6, o_7, a_7, w_7, o_8, o_9, a_9, w_9, o_10, o_11, a_11, w_11, o_12, o_13, a_13, w_13, o_14, o_15, o_16, a_16, w_16, o_17, a_17, w_17, o_18, a_18, w_18, o_19, a_19, w_19, o_20, a_20, w_20, o_21, o_22, a_22, w_22, o_23, o_24, a_24, w_24, o_25, a_25, w_25, o_50, o_51, a_51, w_51, o_52, a_52, w_52, o_53, a_53, w_53, o_54, a_54, w_54, o_55, a_55, w_55, o_56, a_56, w_56, o_57, a_57, w_57, o_58, a_58, w_58, o_59, a_59, w_59, o_60, a_60, w_60, o_61, a_61, w_61, o_62, a_62, w_62, o_63, a_63, w_63, o_64, a_64, w_64, o_rp, o_rs, a_rs, w_rs, r_0_0, r_0_1, r_0_2, r_0_3, r_0_4, r_0_5, r_0_6, r_0_7, r_0_12, r_1_3, r_4_0, r_4_1, r_6_0, r_8_0, r_10_2, r_12_2, r_14_0, r_14_1, r_14_2, r_14_3, r_14_4, r_14_5, r_15_2, r_21_0, r_23_0, r_50_1, r_50_5, r_50_6, r_50_7, r_50_8, r_50_10, r_50_11, r_50_12, r_50_13, r_50_14, r_50_17, r_50_18, r_50_21, r_50_23, r_rp, r_rs, h_Fs, h_FF, h_FI, h_FL, h_Is, h_II, h_IF, h_IL, h_Ls, h_LL, h_LF, h_LI, nI_ltT, nI_ltF, nI_leT, nI_leF, nI_eqT, nI_eqF, ng_ltT, ng_ltF, ng_leT, ng_leF, ng_eqF, ng_eqG, n_ltT, n_leT, n_ltF, n_leF, n_eqF, n_eqG, ng_inj, zix_nI, zinR_nI, nI_add, ↓reduceIte, true_or, or_true, or_self, not_true, not_false, Nat.reduceAdd, l_s0g, l_s1g, l_t0g, List.tail_cons, List.tail_nil, zb1_t, q8, q9, q1, f1, z_i2l]
    exact hQ
