/-! seeking: the reference, the loop -/
theorem zgod_last {D k : Nat} {B : Int64} {ring : Bool} {v : List Nat} {z : Nat} (h : zgod D k B ring (v ++ [z])) : z < D := by
  have := (h.2.2 v.length (by simp)).1
  rw [z_app_last] at this
  exact this
set_option maxHeartbeats 4000000 in
set_option maxRecDepth 8000 in
theorem m_seek_loop {X : zX} {H0 : zHp} {S : zU} {ring two : Bool} {m lim what : Nat} {J : List Nat → Nat → List (List Nat) → Prop} {Q : Option Value → zHp → Prop} (hS : zUok S) (hm : m ≤ 65) (hlim : lim ≤ 20000) (hw2 : two = decide (what = 2)) (hwh : what < 3) (hJ : two = true → zJok S.1.1 m (zhw S.1.1 S.1.2.1 S.1.2.2 ring) ring (zLF ring) J) :
    ∀ (N r t : Nat) (v : List Nat) (x : Nat) (a : zAc) (H : zHp) (b0 : Int32) (tl : List Value), 1000 * r + 8 * v.length + 7 ≤ N + x → t + r = lim → zMq H0 H S ring two m t x v v a.1 a.2.2 → a.1.length ≤ 64 → (two = true → a.2.2.length ≤ 200 ∧ J v x a.2.2) → zgod S.1.1 S.1.2.1 S.1.2.2 ring v → x ≤ S.1.1 → v.length ≤ m →
    (∀ res, res = zro (znt (zhw S.1.1 S.1.2.1 S.1.2.2 ring) S.1.1 m) (zupd (zLF ring) ring m two) r (zph (zhw S.1.1 S.1.2.1 S.1.2.2 ring) S.1.1 m v x) a t → ∀ H2, zfM H0 H2 → zIM H2 (zUn S res.2.1) → (two = false → zBs H2 res.1.1) → (two = true → res.2.2 = true → zCl H2 m res.1.2.2) → Q (some (.long (if res.2.2 = true then lN res.1.2.1 else -lN 6))) H2) →
    zAt X 161 65 65 4 (.ref 50 :: .int (zb1 ring) :: .int (nI m) :: .int (nI lim) :: .int (nI what) :: .long (lN a.2.1) :: .retAddr 0 :: .int b0 :: tl) [] H Q := by
  have hd1 := hS.1.1
  have hd := hS.1.2.1
  intro N
  induction N with
  | zero =>
    intro r t v x a H b0 tl hN htr hM hal hJv hgd hxD hvm hQ
    omega
  | succ N ih =>
    intro r t v x a H b0 tl hN htr hM hal hJv hgd hxD hvm hQ
    have hvr := zgod_row hd hgd
    have hvl := hvr.1
    have hR := hM.1.2.1.1
    have g : H.1 50 2 = .int (nI S.1.1) := hM.1.2.1.2.1.1
    have h9 : H.1 50 9 = .int (nI v.length) := hM.1.2.2.1.1
    have hn2 : H.2.1 61 v.length = nI x := hM.2.1.2
    by_cases hback : S.1.1 ≤ x ∨ v.length = m
    · rcases List.eq_nil_or_concat v with e | ⟨u, z, e⟩
      · subst e
        rw [zph_nil (by rcases hback with h | h; · exact Or.inl h
                        · exact Or.inr (by simp at h; omega))] at hQ
        have hQ := hQ _ rfl
        rw [zro_no] at hQ
        have h9 : H.1 50 9 = .int (nI 0) := h9
        have hn2 : H.2.1 61 0 = nI x := hn2
        have e0 : nI 0 - nI 1 = -nI 1 := by decide
        dsimp only at hQ
        rw [if_pos rfl] at hQ
        by_cases hx : x < S.1.1
        · have hm0 : m = 0 := by rcases hback with h | h; · omega
                                 · simp at h; omega
          subst hm0
          have s5 : zscL H (zsF H 50 9 (.int (-nI 1))) := zscL_F zscL_rf rfl
          have q := hQ (zsF H 50 9 (.int (-nI 1))) (zsm_F hM.1.1 (by omega)) (zscL_IM hM.1.2.1 s5) (fun _ => zBs_sm hM.2.2.1 s5.1 (by omega) (s5.2 19 (by decide))) (fun h2 _ => zCl_sm (hM.2.2.2 h2) s5.1 (by omega) (s5.2 22 (by decide)))
          refine zgo_at 20 ?_
          simp (disch := first | assumption | omega) only [l_g0, l_gs, l_s0, l_s1, l_ss, l_sn0, l_sns, l_ki, l_kr, l_kl, l_ka, l_en, l_ei, l_er, t_I, t_R, t_W0, t_Wi, t_Wr, t_v0, t_v2, t_v3, i_p1, i_m1, t_k0, t_k1, k_some, k_none, true_and, and_true, ite_true, ite_false, Fin.isValue, l_t0, l_t1, l_ts, l_tn0, l_tns, l_el, t_L, t_Wl, t_v1, t_l0, t_l1, List.tail_cons, List.tail_nil, e_aload_n_0, e_dup2, e_dupi, e_dupr, e_getfield, e_goto0N, e_goto1N, e_iadd, e_iaload0, e_iastore, e_icmp_eq0N, e_icmp_ge0N, e_icmp_le0N, e_icmp_ne0N, e_iconst, e_if_eq0N, e_if_gt0N, e_if_le0N, e_if_ne0N, e_if_ne1N, e_iload, e_iload_n_1, e_iload_n_2, e_iload_n_3, e_invv1_0, e_invv2_0, e_istore, e_isub, e_ladd, e_lcmp, e_lconst, e_ldc2_w, e_lload, e_lreturn, e_lstore, e_nop0N, e_nop1N, e_putfield, e_sipush, b161_0, b161_1, b161_10, b161_11, b161_12, b161_13, b161_14, b161_15, b161_16, b161_2, b161_3, b161_4, b161_5, b161_6, b161_7, b161_8, b161_9, ci158, ci159, ci160, q161_0, q161_1, q161_10, q161_11, q161_12, q161_13, q161_14, q161_15, q161_16, q161_2, q161_3, q161_4, q161_5, q161_6, q161_7, q161_8, q161_9, zE161, o_0, o_1, o_2, a_2, w_2, o_3, a_3, w_3, o_4, o_5, a_5, w_5, o_6, o_7, a_7, w_7, o_8, o_9, a_9, w_9, o_10, o_11, a_11, w_11, o_12, o_13, a_13, w_13, o_14, o_15, o_16, a_16, w_16, o_17, a_17, w_17, o_18, a_18, w_18, o_19, a_19, w_19, o_20, a_20, w_20, o_21, o_22, a_22, w_22, o_23, o_24, a_24, w_24, o_25, a_25, w_25, o_50, o_51, a_51, w_51, o_52, a_52, w_52, o_53, a_53, w_53, o_54, a_54, w_54, o_55, a_55, w_55, o_56, a_56, w_56, o_57, a_57, w_57, o_58, a_58, w_58, o_59, a_59, w_59, o_60, a_60, w_60, o_61, a_61, w_61, o_62, a_62, w_62, o_63, a_63, w_63, o_64, a_64, w_64, o_rp, o_rs, a_rs, w_rs, r_0_0, r_0_1, r_0_2, r_0_3, r_0_4, r_0_5, r_0_6, r_0_7, r_0_12, r_1_3, r_4_0, r_4_1, r_6_0, r_8_0, r_10_2, r_12_2, r_14_0, r_14_1, r_14_2, r_14_3, r_14_4, r_14_5, r_15_2, r_21_0, r_23_0, r_50_1, r_50_5, r_50_6, r_50_7, r_50_8, r_50_10, r_50_11, r_50_12, r_50_13, r_50_14, r_50_17, r_50_18, r_50_21, r_50_23, r_rp, r_rs, h_Fs, h_FF, h_FI, h_FL, h_Is, h_II, h_IF, h_IL, h_Ls, h_LL, h_LF, h_LI, nI_ltT, nI_ltF, nI_leT, nI_leF, nI_eqT, nI_eqF, ng_ltT, ng_ltF, ng_leT, ng_leF, ng_eqF, ng_eqG, n_ltT, n_leT, n_ltF, n_leF, n_eqF, n_eqG, ng_inj, zix_nI, zinR_nI, nI_add, ↓reduceIte, true_or, or_true, or_self, not_true, not_false, Nat.reduceAdd, l_s0g, l_s1g, l_t0g, List.tail_cons, List.tail_nil, h9, hn2, g, e0]
          exact q
        · have q := hQ H hM.1.1 hM.1.2.1 (fun _ => hM.2.2.1) (fun h2 _ => hM.2.2.2 h2)
          refine zgo_at 20 ?_
          simp (disch := first | assumption | omega) only [l_g0, l_gs, l_s0, l_s1, l_ss, l_sn0, l_sns, l_ki, l_kr, l_kl, l_ka, l_en, l_ei, l_er, t_I, t_R, t_W0, t_Wi, t_Wr, t_v0, t_v2, t_v3, i_p1, i_m1, t_k0, t_k1, k_some, k_none, true_and, and_true, ite_true, ite_false, Fin.isValue, l_t0, l_t1, l_ts, l_tn0, l_tns, l_el, t_L, t_Wl, t_v1, t_l0, t_l1, List.tail_cons, List.tail_nil, e_aload_n_0, e_dup2, e_dupi, e_dupr, e_getfield, e_goto0N, e_goto1N, e_iadd, e_iaload0, e_iastore, e_icmp_eq0N, e_icmp_ge0N, e_icmp_le0N, e_icmp_ne0N, e_iconst, e_if_eq0N, e_if_gt0N, e_if_le0N, e_if_ne0N, e_if_ne1N, e_iload, e_iload_n_1, e_iload_n_2, e_iload_n_3, e_invv1_0, e_invv2_0, e_istore, e_isub, e_ladd, e_lcmp, e_lconst, e_ldc2_w, e_lload, e_lreturn, e_lstore, e_nop0N, e_nop1N, e_putfield, e_sipush, b161_0, b161_1, b161_10, b161_11, b161_12, b161_13, b161_14, b161_15, b161_16, b161_2, b161_3, b161_4, b161_5, b161_6, b161_7, b161_8, b161_9, ci158, ci159, ci160, q161_0, q161_1, q161_10, q161_11, q161_12, q161_13, q161_14, q161_15, q161_16, q161_2, q161_3, q161_4, q161_5, q161_6, q161_7, q161_8, q161_9, zE161, o_0, o_1, o_2, a_2, w_2, o_3, a_3, w_3, o_4, o_5, a_5, w_5, o_6, o_7, a_7, w_7, o_8, o_9, a_9, w_9, o_10, o_11, a_11, w_11, o_12, o_13, a_13, w_13, o_14, o_15, o_16, a_16, w_16, o_17, a_17, w_17, o_18, a_18, w_18, o_19, a_19, w_19, o_20, a_20, w_20, o_21, o_22, a_22, w_22, o_23, o_24, a_24, w_24, o_25, a_25, w_25, o_50, o_51, a_51, w_51, o_52, a_52, w_52, o_53, a_53, w_53, o_54, a_54, w_54, o_55, a_55, w_55, o_56, a_56, w_56, o_57, a_57, w_57, o_58, a_58, w_58, o_59, a_59, w_59, o_60, a_60, w_60, o_61, a_61, w_61, o_62, a_62, w_62, o_63, a_63, w_63, o_64, a_64, w_64, o_rp, o_rs, a_rs, w_rs, r_0_0, r_0_1, r_0_2, r_0_3, r_0_4, r_0_5, r_0_6, r_0_7, r_0_12, r_1_3, r_4_0, r_4_1, r_6_0, r_8_0, r_10_2, r_12_2, r_14_0, r_14_1, r_14_2, r_14_3, r_14_4, r_14_5, r_15_2, r_21_0, r_23_0, r_50_1, r_50_5, r_50_6, r_50_7, r_50_8, r_50_10, r_50_11, r_50_12, r_50_13, r_50_14, r_50_17, r_50_18, r_50_21, r_50_23, r_rp, r_rs, h_Fs, h_FF, h_FI, h_FL, h_Is, h_II, h_IF, h_IL, h_Ls, h_LL, h_LF, h_LI, nI_ltT, nI_ltF, nI_leT, nI_leF, nI_eqT, nI_eqF, ng_ltT, ng_ltF, ng_leT, ng_leF, ng_eqF, ng_eqG, n_ltT, n_leT, n_ltF, n_leF, n_eqF, n_eqG, ng_inj, zix_nI, zinR_nI, nI_add, ↓reduceIte, true_or, or_true, or_self, not_true, not_false, Nat.reduceAdd, l_s0g, l_s1g, l_t0g, List.tail_cons, List.tail_nil, h9, hn2, g]
          exact q
      · rw [List.concat_eq_append] at e
        subst e
        have el : (u ++ [z]).length = u.length + 1 := by simp
        rw [el] at h9 hn2 hback hvm hN hvl
        have hz := zgod_last hgd
        rw [zph_back (by omega) (by omega)] at hQ
        have q := ih r t u (z + 1) a (zsF H 50 9 (.int (nI u.length))) (nI (u.length + 1)) tl (by omega) htr (zMq_pre2 hM) hal (fun h2 => ⟨(hJv h2).1, (hJ h2).2.1 u z x _ (hJv h2).2 (by omega) (by omega)⟩) (zgod_pre hgd) (by omega) (by omega) hQ
        by_cases hx : u.length + 1 = m
        · refine zgo_at 20 ?_
          simp (disch := first | assumption | omega) only [l_g0, l_gs, l_s0, l_s1, l_ss, l_sn0, l_sns, l_ki, l_kr, l_kl, l_ka, l_en, l_ei, l_er, t_I, t_R, t_W0, t_Wi, t_Wr, t_v0, t_v2, t_v3, i_p1, i_m1, t_k0, t_k1, k_some, k_none, true_and, and_true, ite_true, ite_false, Fin.isValue, l_t0, l_t1, l_ts, l_tn0, l_tns, l_el, t_L, t_Wl, t_v1, t_l0, t_l1, List.tail_cons, List.tail_nil, e_aload_n_0, e_dup2, e_dupi, e_dupr, e_getfield, e_goto0N, e_goto1N, e_iadd, e_iaload0, e_iastore, e_icmp_eq0N, e_icmp_ge0N, e_icmp_le0N, e_icmp_ne0N, e_iconst, e_if_eq0N, e_if_gt0N, e_if_le0N, e_if_ne0N, e_if_ne1N, e_iload, e_iload_n_1, e_iload_n_2, e_iload_n_3, e_invv1_0, e_invv2_0, e_istore, e_isub, e_ladd, e_lcmp, e_lconst, e_ldc2_w, e_lload, e_lreturn, e_lstore, e_nop0N, e_nop1N, e_putfield, e_sipush, b161_0, b161_1, b161_10, b161_11, b161_12, b161_13, b161_14, b161_15, b161_16, b161_2, b161_3, b161_4, b161_5, b161_6, b161_7, b161_8, b161_9, ci158, ci159, ci160, q161_0, q161_1, q161_10, q161_11, q161_12, q161_13, q161_14, q161_15, q161_16, q161_2, q161_3, q161_4, q161_5, q161_6, q161_7, q161_8, q161_9, zE161, o_0, o_1, o_2, a_2, w_2, o_3, a_3, w_3, o_4, o_5, a_5, w_5, o_6, o_7, a_7, w_7, o_8, o_9, a_9, w_9, o_10, o_11, a_11, w_11, o_12, o_13, a_13, w_13, o_14, o_15, o_16, a_16, w_16, o_17, a_17, w_17, o_18, a_18, w_18, o_19, a_19, w_19, o_20, a_20, w_20, o_21, o_22, a_22, w_22, o_23, o_24, a_24, w_24, o_25, a_25, w_25, o_50, o_51, a_51, w_51, o_52, a_52, w_52, o_53, a_53, w_53, o_54, a_54, w_54, o_55, a_55, w_55, o_56, a_56, w_56, o_57, a_57, w_57, o_58, a_58, w_58, o_59, a_59, w_59, o_60, a_60, w_60, o_61, a_61, w_61, o_62, a_62, w_62, o_63, a_63, w_63, o_64, a_64, w_64, o_rp, o_rs, a_rs, w_rs, r_0_0, r_0_1, r_0_2, r_0_3, r_0_4, r_0_5, r_0_6, r_0_7, r_0_12, r_1_3, r_4_0, r_4_1, r_6_0, r_8_0, r_10_2, r_12_2, r_14_0, r_14_1, r_14_2, r_14_3, r_14_4, r_14_5, r_15_2, r_21_0, r_23_0, r_50_1, r_50_5, r_50_6, r_50_7, r_50_8, r_50_10, r_50_11, r_50_12, r_50_13, r_50_14, r_50_17, r_50_18, r_50_21, r_50_23, r_rp, r_rs, h_Fs, h_FF, h_FI, h_FL, h_Is, h_II, h_IF, h_IL, h_Ls, h_LL, h_LF, h_LI, nI_ltT, nI_ltF, nI_leT, nI_leF, nI_eqT, nI_eqF, ng_ltT, ng_ltF, ng_leT, ng_leF, ng_eqF, ng_eqG, n_ltT, n_leT, n_ltF, n_leF, n_eqF, n_eqG, ng_inj, zix_nI, zinR_nI, nI_add, ↓reduceIte, true_or, or_true, or_self, not_true, not_false, Nat.reduceAdd, l_s0g, l_s1g, l_t0g, List.tail_cons, List.tail_nil, h9, hn2, g, nI_sub, Nat.add_sub_cancel]
          exact q
        · refine zgo_at 20 ?_
          simp (disch := first | assumption | omega) only [l_g0, l_gs, l_s0, l_s1, l_ss, l_sn0, l_sns, l_ki, l_kr, l_kl, l_ka, l_en, l_ei, l_er, t_I, t_R, t_W0, t_Wi, t_Wr, t_v0, t_v2, t_v3, i_p1, i_m1, t_k0, t_k1, k_some, k_none, true_and, and_true, ite_true, ite_false, Fin.isValue, l_t0, l_t1, l_ts, l_tn0, l_tns, l_el, t_L, t_Wl, t_v1, t_l0, t_l1, List.tail_cons, List.tail_nil, e_aload_n_0, e_dup2, e_dupi, e_dupr, e_getfield, e_goto0N, e_goto1N, e_iadd, e_iaload0, e_iastore, e_icmp_eq0N, e_icmp_ge0N, e_icmp_le0N, e_icmp_ne0N, e_iconst, e_if_eq0N, e_if_gt0N, e_if_le0N, e_if_ne0N, e_if_ne1N, e_iload, e_iload_n_1, e_iload_n_2, e_iload_n_3, e_invv1_0, e_invv2_0, e_istore, e_isub, e_ladd, e_lcmp, e_lconst, e_ldc2_w, e_lload, e_lreturn, e_lstore, e_nop0N, e_nop1N, e_putfield, e_sipush, b161_0, b161_1, b161_10, b161_11, b161_12, b161_13, b161_14, b161_15, b161_16, b161_2, b161_3, b161_4, b161_5, b161_6, b161_7, b161_8, b161_9, ci158, ci159, ci160, q161_0, q161_1, q161_10, q161_11, q161_12, q161_13, q161_14, q161_15, q161_16, q161_2, q161_3, q161_4, q161_5, q161_6, q161_7, q161_8, q161_9, zE161, o_0, o_1, o_2, a_2, w_2, o_3, a_3, w_3, o_4, o_5, a_5, w_5, o_6, o_7, a_7, w_7, o_8, o_9, a_9, w_9, o_10, o_11, a_11, w_11, o_12, o_13, a_13, w_13, o_14, o_15, o_16, a_16, w_16, o_17, a_17, w_17, o_18, a_18, w_18, o_19, a_19, w_19, o_20, a_20, w_20, o_21, o_22, a_22, w_22, o_23, o_24, a_24, w_24, o_25, a_25, w_25, o_50, o_51, a_51, w_51, o_52, a_52, w_52, o_53, a_53, w_53, o_54, a_54, w_54, o_55, a_55, w_55, o_56, a_56, w_56, o_57, a_57, w_57, o_58, a_58, w_58, o_59, a_59, w_59, o_60, a_60, w_60, o_61, a_61, w_61, o_62, a_62, w_62, o_63, a_63, w_63, o_64, a_64, w_64, o_rp, o_rs, a_rs, w_rs, r_0_0, r_0_1, r_0_2, r_0_3, r_0_4, r_0_5, r_0_6, r_0_7, r_0_12, r_1_3, r_4_0, r_4_1, r_6_0, r_8_0, r_10_2, r_12_2, r_14_0, r_14_1, r_14_2, r_14_3, r_14_4, r_14_5, r_15_2, r_21_0, r_23_0, r_50_1, r_50_5, r_50_6, r_50_7, r_50_8, r_50_10, r_50_11, r_50_12, r_50_13, r_50_14, r_50_17, r_50_18, r_50_21, r_50_23, r_rp, r_rs, h_Fs, h_FF, h_FI, h_FL, h_Is, h_II, h_IF, h_IL, h_Ls, h_LL, h_LF, h_LI, nI_ltT, nI_ltF, nI_leT, nI_leF, nI_eqT, nI_eqF, ng_ltT, ng_ltF, ng_leT, ng_leF, ng_eqF, ng_eqG, n_ltT, n_leT, n_ltF, n_leF, n_eqF, n_eqG, ng_inj, zix_nI, zinR_nI, nI_add, ↓reduceIte, true_or, or_true, or_self, not_true, not_false, Nat.reduceAdd, l_s0g, l_s1g, l_t0g, List.tail_cons, List.tail_nil, h9, hn2, g, nI_sub, Nat.add_sub_cancel]
          exact q
    · have hx : x < S.1.1 := by omega
      have hlt : v.length < m := by omega
      have e1 : (nI x = nI S.1.1) = False := nI_eqF (by omega) (by omega) (by omega)
      have tr := fun tl => m_seek_try (X := X) (Q := Q) (a := a) (b0 := b0) (tl := tl) (t := t) hS hlim hm hw2 hwh (zMq_n hM (x + 1)) hx hlt hgd hal (by omega)
        (fun h0 H2 l1 b0 tl => ih r t v (x + 1) a H2 b0 tl (by omega) htr l1 hal (fun h2 => ⟨(hJv h2).1, (hJ h2).1 v x _ (hJv h2).2 h0 hx hlt⟩) hgd (by omega) hvm (by rw [zph_miss hlt h0] at hQ; exact hQ))
        (fun h0 ht H2 l1 l2 l3 => by
          have hr : r = 0 := by omega
          subst hr
          rw [zph_hit hlt hx h0] at hQ
          have hQ := hQ _ rfl H2
          rw [zro_0] at hQ
          exact hQ l1 l2 (fun _ => l3) (fun _ h => by cases h))
        (fun h0 ht h2 hu H2 l1 l2 => by
          obtain ⟨r, rfl⟩ : ∃ r', r = r' + 1 := ⟨r - 1, by omega⟩
          rw [zph_hit hlt hx h0] at hQ
          have hQ := hQ _ rfl H2
          rw [zro_s0 hu] at hQ
          exact hQ l1 l2 (fun h => by rw [h2] at h; cases h) (fun _ h => by cases h))
        (fun h1 ht a' hu H2 l1 b0 tl => by
          obtain ⟨r, rfl⟩ : ∃ r', r = r' + 1 := ⟨r - 1, by omega⟩
          have hne : zhw S.1.1 S.1.2.1 S.1.2.2 ring v x ≠ 0 := by omega
          have el : (v ++ [x]).length = v.length + 1 := by simp
          have hgd2 := zgod_app hgd hx h1
          rw [zph_hit hlt hx hne] at hQ
          have hal2 : a'.1.length ≤ 64 := by
            unfold zupd at hu
            have : (zbes a.1 (v ++ [x])).length ≤ 64 := by
              unfold zbes
              split
              · exact hgd2.2.1
              · exact hal
            split at hu
            · cases hu; exact hal
            · split at hu
              · split at hu
                · split at hu
                  · cases hu
                  · cases hu; exact this
                · cases hu; exact this
              · cases hu; exact this
          refine ih r (t + 1) (v ++ [x]) 0 a' H2 b0 tl (by omega) (by omega) l1 hal2 (fun h2 => ⟨zupd_200 hu (hJv h2).1, ?_⟩) hgd2 (Nat.zero_le _) (by omega) ?_
          · by_cases hc : zmet ring (v ++ [x], zhw S.1.1 S.1.2.1 S.1.2.2 ring v x) = true ∧ v.length + 1 = m
            · rw [h2] at hu
              rw [zupd_yes (by rw [hc.1, Bool.true_and]; exact decide_eq_true (by dsimp only; omega))] at hu
              rcases (hJ h2).2.2.2 v x _ (hJv h2).2 hx hc.2 hne hc.1 with ⟨w1, w2, w3⟩ | ⟨w1, w2, w3⟩
              · dsimp only at hu
                rw [if_pos w1] at hu
                split at hu
                · cases hu
                · cases hu
                  rw [h1] at w3
                  exact w3
              · dsimp only at hu
                rw [if_neg w1] at hu
                cases hu
                rw [h1] at w3
                exact w3
            · have w3 := (hJ h2).2.2.1 v x _ (hJv h2).2 hx hlt hne hc
              have e3 : a'.2.2 = a.2.2 := by
                rw [h2] at hu
                rw [zupd_no (by
                  rw [Bool.and_eq_false_iff, decide_eq_false_iff_not]
                  cases hm2 : zmet ring (v ++ [x], zhw S.1.1 S.1.2.1 S.1.2.2 ring v x)
                  · exact Or.inl rfl
                  · exact Or.inr (fun q => hc ⟨hm2, by dsimp only at q; omega⟩))] at hu
                cases hu
                exact zup1_3
              rw [e3]
              rw [h1] at w3
              exact w3
          · intro res e3
            refine hQ res ?_
            rw [zro_s hu, h1, znt_ph1]
            exact e3)
        (fun h1 ht a' hu H2 l1 b0 tl => by
          obtain ⟨r, rfl⟩ : ∃ r', r = r' + 1 := ⟨r - 1, by omega⟩
          have hne : zhw S.1.1 S.1.2.1 S.1.2.2 ring v x ≠ 0 := by omega
          have el : (v ++ [x]).length = v.length + 1 := by simp
          have hv64 : v.length + 1 ≤ 64 := by
            have : v.length ≠ 64 := fun q => by
              unfold zhw at hne
              rw [if_pos q] at hne
              exact hne rfl
            omega
          rw [zph_hit hlt hx hne] at hQ
          have hal2 : a'.1.length ≤ 64 := by
            unfold zupd at hu
            have : (zbes a.1 (v ++ [x])).length ≤ 64 := by
              unfold zbes
              split
              · omega
              · exact hal
            split at hu
            · cases hu; exact hal
            · split at hu
              · split at hu
                · split at hu
                  · cases hu
                  · cases hu; exact this
                · cases hu; exact this
              · cases hu; exact this
          refine ih r (t + 1) v (x + 1) a' H2 b0 tl (by omega) (by omega) l1 hal2 (fun h2 => ⟨zupd_200 hu (hJv h2).1, ?_⟩) hgd (by omega) hvm ?_
          · by_cases hc : zmet ring (v ++ [x], zhw S.1.1 S.1.2.1 S.1.2.2 ring v x) = true ∧ v.length + 1 = m
            · rw [h2] at hu
              rw [zupd_yes (by rw [hc.1, Bool.true_and]; exact decide_eq_true (by dsimp only; omega))] at hu
              rcases (hJ h2).2.2.2 v x _ (hJv h2).2 hx hc.2 hne hc.1 with ⟨w1, w2, w3⟩ | ⟨w1, w2, w3⟩
              · dsimp only at hu
                rw [if_pos w1] at hu
                split at hu
                · cases hu
                · cases hu
                  rw [h1] at w3
                  exact w3
              · dsimp only at hu
                rw [if_neg w1] at hu
                cases hu
                rw [h1] at w3
                exact w3
            · have w3 := (hJ h2).2.2.1 v x _ (hJv h2).2 hx hlt hne hc
              have e3 : a'.2.2 = a.2.2 := by
                rw [h2] at hu
                rw [zupd_no (by
                  rw [Bool.and_eq_false_iff, decide_eq_false_iff_not]
                  cases hm2 : zmet ring (v ++ [x], zhw S.1.1 S.1.2.1 S.1.2.2 ring v x)
                  · exact Or.inl rfl
                  · exact Or.inr (fun q => hc ⟨hm2, by dsimp only at q; omega⟩))] at hu
                cases hu
                exact zup1_3
              rw [e3]
              rw [h1] at w3
              exact w3
          · intro res e3
            refine hQ res ?_
            rw [zro_s hu, h1, znt_ph2 hlt]
            exact e3)
        (fun h2 hne hmt hlen => ⟨(hJv h2).1, by
          rcases (hJ h2).2.2.2 v x _ (hJv h2).2 hx hlen hne hmt with ⟨w1, w2, w3⟩ | ⟨w1, w2, w3⟩
          · exact Or.inl ⟨w1, w2⟩
          · exact Or.inr ⟨w1, w2⟩⟩)
      refine zgo_at 20 ?_
      by_cases h0 : v.length = 0
      · have hn3 : H.2.1 61 0 = nI x := by rw [← h0]; exact hn2
        rw [h0] at h9 tr
        simp (disch := first | assumption | omega) only [l_g0, l_gs, l_s0, l_s1, l_ss, l_sn0, l_sns, l_ki, l_kr, l_kl, l_ka, l_en, l_ei, l_er, t_I, t_R, t_W0, t_Wi, t_Wr, t_v0, t_v2, t_v3, i_p1, i_m1, t_k0, t_k1, k_some, k_none, true_and, and_true, ite_true, ite_false, Fin.isValue, l_t0, l_t1, l_ts, l_tn0, l_tns, l_el, t_L, t_Wl, t_v1, t_l0, t_l1, List.tail_cons, List.tail_nil, e_aload_n_0, e_dup2, e_dupi, e_dupr, e_getfield, e_goto0N, e_goto1N, e_iadd, e_iaload0, e_iastore, e_icmp_eq0N, e_icmp_ge0N, e_icmp_le0N, e_icmp_ne0N, e_iconst, e_if_eq0N, e_if_gt0N, e_if_le0N, e_if_ne0N, e_if_ne1N, e_iload, e_iload_n_1, e_iload_n_2, e_iload_n_3, e_invv1_0, e_invv2_0, e_istore, e_isub, e_ladd, e_lcmp, e_lconst, e_ldc2_w, e_lload, e_lreturn, e_lstore, e_nop0N, e_nop1N, e_putfield, e_sipush, b161_0, b161_1, b161_10, b161_11, b161_12, b161_13, b161_14, b161_15, b161_16, b161_2, b161_3, b161_4, b161_5, b161_6, b161_7, b161_8, b161_9, ci158, ci159, ci160, q161_0, q161_1, q161_10, q161_11, q161_12, q161_13, q161_14, q161_15, q161_16, q161_2, q161_3, q161_4, q161_5, q161_6, q161_7, q161_8, q161_9, zE161, o_0, o_1, o_2, a_2, w_2, o_3, a_3, w_3, o_4, o_5, a_5, w_5, o_6, o_7, a_7, w_7, o_8, o_9, a_9, w_9, o_10, o_11, a_11, w_11, o_12, o_13, a_13, w_13, o_14, o_15, o_16, a_16, w_16, o_17, a_17, w_17, o_18, a_18, w_18, o_19, a_19, w_19, o_20, a_20, w_20, o_21, o_22, a_22, w_22, o_23, o_24, a_24, w_24, o_25, a_25, w_25, o_50, o_51, a_51, w_51, o_52, a_52, w_52, o_53, a_53, w_53, o_54, a_54, w_54, o_55, a_55, w_55, o_56, a_56, w_56, o_57, a_57, w_57, o_58, a_58, w_58, o_59, a_59, w_59, o_60, a_60, w_60, o_61, a_61, w_61, o_62, a_62, w_62, o_63, a_63, w_63, o_64, a_64, w_64, o_rp, o_rs, a_rs, w_rs, r_0_0, r_0_1, r_0_2, r_0_3, r_0_4, r_0_5, r_0_6, r_0_7, r_0_12, r_1_3, r_4_0, r_4_1, r_6_0, r_8_0, r_10_2, r_12_2, r_14_0, r_14_1, r_14_2, r_14_3, r_14_4, r_14_5, r_15_2, r_21_0, r_23_0, r_50_1, r_50_5, r_50_6, r_50_7, r_50_8, r_50_10, r_50_11, r_50_12, r_50_13, r_50_14, r_50_17, r_50_18, r_50_21, r_50_23, r_rp, r_rs, h_Fs, h_FF, h_FI, h_FL, h_Is, h_II, h_IF, h_IL, h_Ls, h_LL, h_LF, h_LI, nI_ltT, nI_ltF, nI_leT, nI_leF, nI_eqT, nI_eqF, ng_ltT, ng_ltF, ng_leT, ng_leF, ng_eqF, ng_eqG, n_ltT, n_leT, n_ltF, n_leF, n_eqF, n_eqG, ng_inj, zix_nI, zinR_nI, nI_add, ↓reduceIte, true_or, or_true, or_self, not_true, not_false, Nat.reduceAdd, l_s0g, l_s1g, l_t0g, List.tail_cons, List.tail_nil, h9, hn3, g]
        exact tr _
      · simp (disch := first | assumption | omega) only [l_g0, l_gs, l_s0, l_s1, l_ss, l_sn0, l_sns, l_ki, l_kr, l_kl, l_ka, l_en, l_ei, l_er, t_I, t_R, t_W0, t_Wi, t_Wr, t_v0, t_v2, t_v3, i_p1, i_m1, t_k0, t_k1, k_some, k_none, true_and, and_true, ite_true, ite_false, Fin.isValue, l_t0, l_t1, l_ts, l_tn0, l_tns, l_el, t_L, t_Wl, t_v1, t_l0, t_l1, List.tail_cons, List.tail_nil, e_aload_n_0, e_dup2, e_dupi, e_dupr, e_getfield, e_goto0N, e_goto1N, e_iadd, e_iaload0, e_iastore, e_icmp_eq0N, e_icmp_ge0N, e_icmp_le0N, e_icmp_ne0N, e_iconst, e_if_eq0N, e_if_gt0N, e_if_le0N, e_if_ne0N, e_if_ne1N, e_iload, e_iload_n_1, e_iload_n_2, e_iload_n_3, e_invv1_0, e_invv2_0, e_istore, e_isub, e_ladd, e_lcmp, e_lconst, e_ldc2_w, e_lload, e_lreturn, e_lstore, e_nop0N, e_nop1N, e_putfield, e_sipush, b161_0, b161_1, b161_10, b161_11, b161_12, b161_13, b161_14, b161_15, b161_16, b161_2, b161_3, b161_4, b161_5, b161_6, b161_7, b161_8, b161_9, ci158, ci159, ci160, q161_0, q161_1, q161_10, q161_11, q161_12, q161_13, q161_14, q161_15, q161_16, q161_2, q161_3, q161_4, q161_5, q161_6, q161_7, q161_8, q161_9, zE161, o_0, o_1, o_2, a_2, w_2, o_3, a_3, w_3, o_4, o_5, a_5, w_5, o_6, o_7, a_7, w_7, o_8, o_9, a_9, w_9, o_10, o_11, a_11, w_11, o_12, o_13, a_13, w_13, o_14, o_15, o_16, a_16, w_16, o_17, a_17, w_17, o_18, a_18, w_18, o_19, a_19, w_19, o_20, a_20, w_20, o_21, o_22, a_22, w_22, o_23, o_24, a_24, w_24, o_25, a_25, w_25, o_50, o_51, a_51, w_51, o_52, a_52, w_52, o_53, a_53, w_53, o_54, a_54, w_54, o_55, a_55, w_55, o_56, a_56, w_56, o_57, a_57, w_57, o_58, a_58, w_58, o_59, a_59, w_59, o_60, a_60, w_60, o_61, a_61, w_61, o_62, a_62, w_62, o_63, a_63, w_63, o_64, a_64, w_64, o_rp, o_rs, a_rs, w_rs, r_0_0, r_0_1, r_0_2, r_0_3, r_0_4, r_0_5, r_0_6, r_0_7, r_0_12, r_1_3, r_4_0, r_4_1, r_6_0, r_8_0, r_10_2, r_12_2, r_14_0, r_14_1, r_14_2, r_14_3, r_14_4, r_14_5, r_15_2, r_21_0, r_23_0, r_50_1, r_50_5, r_50_6, r_50_7, r_50_8, r_50_10, r_50_11, r_50_12, r_50_13, r_50_14, r_50_17, r_50_18, r_50_21, r_50_23, r_rp, r_rs, h_Fs, h_FF, h_FI, h_FL, h_Is, h_II, h_IF, h_IL, h_Ls, h_LL, h_LF, h_LI, nI_ltT, nI_ltF, nI_leT, nI_leF, nI_eqT, nI_eqF, ng_ltT, ng_ltF, ng_leT, ng_leF, ng_eqF, ng_eqG, n_ltT, n_leT, n_ltF, n_leF, n_eqF, n_eqG, ng_inj, zix_nI, zinR_nI, nI_add, ↓reduceIte, true_or, or_true, or_self, not_true, not_false, Nat.reduceAdd, l_s0g, l_s1g, l_t0g, List.tail_cons, List.tail_nil, h9, hn2, g, e1]
        exact tr _
