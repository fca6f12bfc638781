/-! the class's seeker: sets of corners to which no step may go -/
theorem zpc_0 : ∀ a, a < 64 → zpc a = 0 → a = 0 := by decide +kernel
theorem zpc_pos {a b : Nat} (ha : a < 64) (hb : b < 64) : 0 < zpc (a ^^^ b) ↔ a ≠ b := by
  constructor
  · rintro h rfl
    rw [zpc_xor0 _ ha] at h
    omega
  · intro h
    refine Nat.pos_of_ne_zero (fun e => h ?_)
    have := zpc_0 _ (zx_lt ha hb) e
    have e2 := congrArg (· ^^^ b) this
    simp only [zx_self, Nat.zero_xor] at e2
    exact e2
/-- too near to place i, by s steps (a ring may come home) -/
def zne (k : Nat) (ring : Bool) (w : List Nat) (i s d : Nat) : Bool := (decide (zpc (zcor w i ^^^ d) ≤ s) && !(ring && decide (i + zpc d < k))) || decide (d = zcor w i)
def zshu (k : Nat) (B : Int64) (ring : Bool) (w : List Nat) (n d : Nat) : Bool := zbit B d || !zga (fun i => !zne k ring w i (k - 1) d) n
def ztak (k : Nat) (B : Int64) (ring : Bool) (w : List Nat) (n d : Nat) : Bool := zbit B d || !zga (fun i => !zne k ring w i (min (n + 1 - i) k - 1) d) (n + 1)
theorem zne_app {k : Nat} {ring : Bool} {w v : List Nat} {i s d : Nat} (hi : i ≤ w.length) : zne k ring (w ++ v) i s d = zne k ring w i s d := by
  unfold zne
  rw [zcor_app hi]
theorem zshu_app {k : Nat} {B : Int64} {ring : Bool} {w v : List Nat} {n d : Nat} (hn : n ≤ w.length + 1) : zshu k B ring (w ++ v) n d = zshu k B ring w n d := by
  unfold zshu
  rw [zga_cong (fun i hi => by rw [zne_app (by omega)])]
theorem ztak_app {k : Nat} {B : Int64} {ring : Bool} {w v : List Nat} {n d : Nat} (hn : n ≤ w.length) : ztak k B ring (w ++ v) n d = ztak k B ring w n d := by
  unfold ztak
  rw [zga_cong (fun i hi => by rw [zne_app (by omega)])]
def zgrt (D : Nat) (B : Int64) (w : List Nat) (i : Nat) : Nat := if B = lN 0 then min (zmwn w i) (D - 1) else D - 1
theorem zgrt_app {D : Nat} {B : Int64} {w v : List Nat} {i : Nat} (hi : i ≤ w.length) : zgrt D B (w ++ v) i = zgrt D B w i := by
  unfold zgrt
  rw [zmwn_app hi]
theorem zgrt_le (D : Nat) (B : Int64) (w : List Nat) (i : Nat) : zgrt D B w i ≤ D - 1 := by
  unfold zgrt
  split <;> omega
theorem zgrt_s {D : Nat} {B : Int64} {v : List Nat} {x : Nat} (hx : x < D) : min (max (zgrt D B v v.length) (x + 1)) (D - 1) = zgrt D B (v ++ [x]) (v.length + 1) := by
  unfold zgrt
  rw [zmwn_s]
  split <;> omega
theorem zgrt_in {D : Nat} {B : Int64} {v : List Nat} {x : Nat} (hD : 1 ≤ D) : x ≤ zgrt D B v v.length ↔ x < D ∧ ¬ (B = lN 0 ∧ zmwn v v.length < x) := by
  unfold zgrt
  split
  · next h => constructor
              · intro h2
                exact ⟨by omega, fun q => by omega⟩
              · rintro ⟨h2, h3⟩
                have : ¬ zmwn v v.length < x := fun q => h3 ⟨h, q⟩
                omega
  · next h => constructor
              · intro h2
                exact ⟨by omega, fun q => h q.1⟩
              · rintro ⟨h2, -⟩
                omega
/-- what is taken is what a step may not go to -/
theorem ztak_ring {k : Nat} {B : Int64} {v : List Nat} {x : Nat} (hk : 1 ≤ k) (h6 : ∀ y ∈ v ++ [x], y < 6) : (!ztak k B true v v.length (zcor (v ++ [x]) (v.length + 1))) = zop k B (v ++ [x]) (v.length + 1) := by
  have hc := zcor_lt6 h6
  unfold ztak zop
  rw [Bool.not_or, Bool.not_not]
  congr 1
  refine zga_cong (fun i hi => ?_)
  have e : zcor (v ++ [x]) i = zcor v i := zcor_app (by omega)
  have hp := zpc_pos (hc i) (hc (v.length + 1))
  unfold zne zopp
  rw [e] at hp ⊢
  generalize zcor (v ++ [x]) (v.length + 1) = d at hp
  rw [Bool.eq_iff_iff]
  simp only [Bool.not_eq_true', Bool.or_eq_false_iff, Bool.and_eq_false_iff, decide_eq_false_iff_not, Bool.not_eq_false', Bool.and_eq_true, Bool.true_and, decide_eq_true_eq, Bool.or_eq_true]
  rw [hp]
  constructor
  · rintro ⟨h1, h2⟩
    refine ⟨fun q => h2 q.symm, ?_⟩
    rcases h1 with h1 | h1
    · left; omega
    · exact Or.inr h1
  · rintro ⟨h1, h2⟩
    refine ⟨?_, fun q => h1 q.symm⟩
    rcases h2 with h2 | h2
    · left
      have := hp.mpr h1
      omega
    · exact Or.inr h2
theorem ztak_snake {k : Nat} {B : Int64} {v : List Nat} {x : Nat} (hk : 1 ≤ k) (h6 : ∀ y ∈ v ++ [x], y < 6) : (!ztak k B false v v.length (zcor (v ++ [x]) (v.length + 1))) = (zcau k B (v ++ [x]) (v.length + 1)).isNone := by
  have hc := zcor_lt6 h6
  rw [Bool.eq_iff_iff, Option.isNone_iff_eq_none, zcau_none]
  unfold ztak
  rw [Bool.not_or, Bool.not_not, Bool.and_eq_true, Bool.not_eq_true', zga_iff]
  refine and_congr Iff.rfl (forall_congr' fun i => forall_congr' fun hi => ?_)
  have e : zcor (v ++ [x]) i = zcor v i := zcor_app (by omega)
  have hp := zpc_pos (hc i) (hc (v.length + 1))
  unfold zne
  rw [e] at hp ⊢
  generalize zcor (v ++ [x]) (v.length + 1) = d at hp
  simp only [Bool.not_eq_true', Bool.or_eq_false_iff, Bool.and_eq_false_iff, decide_eq_false_iff_not, Bool.not_eq_false', Bool.and_eq_true, Bool.false_and, Bool.false_eq_true, or_false]
  constructor
  · rintro ⟨h1, h2⟩
    omega
  · intro h1
    have h2 : zcor v i ≠ d := hp.mp (by omega)
    exact ⟨by omega, fun q => h2 q.symm⟩
/-- how the class gathers what is taken -/
theorem ztak_of {k : Nat} {B : Int64} {ring : Bool} {v : List Nat} {n d : Nat} (hk : 1 ≤ k) : ztak k B ring v n d = ((if n + 1 < k then zbit B d else zshu k B ring v (n + 2 - k) d) || !zga (fun b => !(decide (b ≤ n) && zne k ring v (n - b) b d)) (k - 1)) := by
  rw [Bool.eq_iff_iff]
  have ex : ∀ (p : Nat → Bool) (m : Nat), (!zga (fun i => !p i) m) = true ↔ ∃ i, i < m ∧ p i = true := by
    intro p m
    rw [Bool.not_eq_true', ← Bool.not_eq_true, zga_iff]
    constructor
    · intro h
      refine Classical.byContradiction (fun q => h (fun i hi => ?_))
      cases hp : p i
      · rfl
      · exact absurd ⟨i, hi, hp⟩ q
    · rintro ⟨i, hi, hp⟩ h
      have := h i hi
      rw [hp] at this
      cases this
  have hsh : (if n + 1 < k then zbit B d else zshu k B ring v (n + 2 - k) d) = true ↔ zbit B d = true ∨ ∃ i, i + k < n + 2 ∧ zne k ring v i (k - 1) d = true := by
    split
    · next h =>
      constructor
      · exact Or.inl
      · rintro (h2 | ⟨i, hi, -⟩)
        · exact h2
        · omega
    · next h =>
      unfold zshu
      rw [Bool.or_eq_true, ex]
      constructor
      · rintro (h2 | ⟨i, hi, h3⟩)
        · exact Or.inl h2
        · exact Or.inr ⟨i, by omega, h3⟩
      · rintro (h2 | ⟨i, hi, h3⟩)
        · exact Or.inl h2
        · exact Or.inr ⟨i, by omega, h3⟩
  rw [Bool.or_eq_true, hsh, ex]
  unfold ztak
  rw [Bool.or_eq_true, ex]
  constructor
  · rintro (h | ⟨i, hi, h⟩)
    · exact Or.inl (Or.inl h)
    · by_cases h2 : i + k < n + 2
      · have : min (n + 1 - i) k = k := by omega
        rw [this] at h
        exact Or.inl (Or.inr ⟨i, h2, h⟩)
      · have : min (n + 1 - i) k - 1 = n - i := by omega
        rw [this] at h
        refine Or.inr ⟨n - i, by omega, ?_⟩
        have e : n - (n - i) = i := by omega
        rw [e, h, decide_eq_true (by omega)]
        rfl
  · rintro ((h | ⟨i, hi, h⟩) | ⟨b, hb, h⟩)
    · exact Or.inl h
    · have : min (n + 1 - i) k = k := by omega
      exact Or.inr ⟨i, by omega, by rw [this]; exact h⟩
    · rw [Bool.and_eq_true, decide_eq_true_eq] at h
      have : min (n + 1 - (n - b)) k - 1 = b := by omega
      exact Or.inr ⟨n - b, by omega, by rw [this]; exact h.2⟩
/-! the seeker's cells -/
def zSf (H : zHp) (ring : Bool) (m : Nat) (cl : Bool) : Prop := H.1 14 6 = .int (zb1 ring) ∧ H.1 14 7 = .int (zb1 cl) ∧ H.1 14 8 = .int (nI m)
def zSw (H : zHp) (v : List Nat) : Prop := H.1 15 1 = .int (nI v.length) ∧ ∀ j, j < v.length → H.2.1 16 j = nI (v.getD j 0)
def zSe (H : zHp) (D k : Nat) (B : Int64) (ring : Bool) (v : List Nat) (i : Nat) : Prop := H.2.1 17 i = nI (zcor v i) ∧ H.2.1 18 i = nI (zgrt D B v i) ∧ (∀ d, d < 64 → zbit (H.2.2 19 i) d = zshu k B ring v (i + 1) d) ∧ ∀ d, d < 64 → zbit (H.2.2 20 i) d = ztak k B ring v i d
def zSa (H : zHp) (D k : Nat) (B : Int64) (ring : Bool) (v : List Nat) (n : Nat) : Prop := ∀ i, i < n → zSe H D k B ring v i
theorem zSe_app {H : zHp} {D k : Nat} {B : Int64} {ring : Bool} {v u : List Nat} {i : Nat} (hi : i ≤ v.length) (h : zSe H D k B ring v i) : zSe H D k B ring (v ++ u) i := by
  obtain ⟨h1, h2, h3, h4⟩ := h
  refine ⟨by rw [zcor_app hi]; exact h1, by rw [zgrt_app hi]; exact h2, fun d hd => ?_, fun d hd => ?_⟩
  · rw [zshu_app (by omega)]; exact h3 d hd
  · rw [ztak_app hi]; exact h4 d hd
theorem zSe_pre {H : zHp} {D k : Nat} {B : Int64} {ring : Bool} {v u : List Nat} {i : Nat} (hi : i ≤ v.length) (h : zSe H D k B ring (v ++ u) i) : zSe H D k B ring v i := by
  obtain ⟨h1, h2, h3, h4⟩ := h
  refine ⟨by rw [zcor_app hi] at h1; exact h1, by rw [zgrt_app hi] at h2; exact h2, fun d hd => ?_, fun d hd => ?_⟩
  · have := h3 d hd
    rw [zshu_app (by omega)] at this; exact this
  · have := h4 d hd
    rw [ztak_app hi] at this; exact this
theorem x_shut_b {X : zX} {H : zHp} {S : zU} {r : Nat} {Q : Option Value → zHp → Prop} (hI : zIX H S) (hr : 0 < r ∧ r < 1000) (hQ : Q (some (.long S.1.2.2)) H) : zCall X 55 65 [.ref 14, .int (-nI r)] H Q := by
  have hR := hI.1
  have g := hI.2.1
  refine zgo_call 20 (by decide) (by decide +kernel) True.intro ?_
  have e : (-nI r < nI 0) = True := ng_ltT (by omega) (by omega) (by omega)
  simp (disch := first | assumption | omega) only [l_g0, l_gs, l_s0, l_s1, l_ss, l_sn0, l_sns, l_ki, l_kr, l_kl, l_ka, l_en, l_ei, l_er, t_I, t_R, t_W0, t_Wi, t_Wr, t_v0, t_v2, t_v3, i_p1, i_m1, t_k0, t_k1, k_some, k_none, true_and, and_true, ite_true, ite_false, Fin.isValue, l_t0, l_t1, l_ts, l_tn0, l_tns, l_el, t_L, t_Wl, t_v1, t_l0, t_l1, List.tail_cons, List.tail_nil, e_aload_n_0, e_arraylength0, e_getfield, e_goto0N, e_icmp_ge0N, e_if_lt0N, e_iload_n_1, e_invv1_1, e_laload0, e_lreturn, e_nop0N, b10_0, b55_0, b55_1, b55_2, ci10, ml10, q10_0, q55_0, q55_1, q55_2, zE55, zE10, o_0, o_1, o_2, a_2, w_2, o_3, a_3, w_3, o_4, o_5, a_5, w_5, o_6, o_7, a_7, w_7, o_8, o_9, a_9, w_9, o_10, o_11, a_11, w_11, o_12, o_13, a_13, w_13, o_14, o_15, o_16, a_16, w_16, o_17, a_17, w_17, o_18, a_18, w_18, o_19, a_19, w_19, o_20, a_20, w_20, o_21, o_22, a_22, w_22, o_23, o_24, a_24, w_24, o_25, a_25, w_25, o_50, o_51, a_51, w_51, o_52, a_52, w_52, o_53, a_53, w_53, o_54, a_54, w_54, o_55, a_55, w_55, o_56, a_56, w_56, o_57, a_57, w_57, o_58, a_58, w_58, o_59, a_59, w_59, o_60, a_60, w_60, o_61, a_61, w_61, o_62, a_62, w_62, o_63, a_63, w_63, o_64, a_64, w_64, o_rp, o_rs, a_rs, w_rs, r_0_0, r_0_1, r_0_2, r_0_3, r_0_4, r_0_5, r_0_6, r_0_7, r_0_12, r_1_3, r_4_0, r_4_1, r_6_0, r_8_0, r_10_2, r_12_2, r_14_0, r_14_1, r_14_2, r_14_3, r_14_4, r_14_5, r_15_2, r_21_0, r_23_0, r_50_1, r_50_5, r_50_6, r_50_7, r_50_8, r_50_10, r_50_11, r_50_12, r_50_13, r_50_14, r_50_17, r_50_18, r_50_21, r_50_23, r_rp, r_rs, h_Fs, h_FF, h_FI, h_FL, h_Is, h_II, h_IF, h_IL, h_Ls, h_LL, h_LF, h_LI, nI_ltT, nI_ltF, nI_leT, nI_leF, nI_eqT, nI_eqF, ng_ltT, ng_ltF, ng_leT, ng_leF, ng_eqF, ng_eqG, n_ltT, n_leT, n_ltF, n_leF, n_eqF, n_eqG, ng_inj, zix_nI, zinR_nI, nI_add, ↓reduceIte, true_or, or_true, or_self, not_true, not_false, Nat.reduceAdd, l_s0g, l_s1g, l_t0g, List.tail_cons, List.tail_nil, e, g]
  exact hQ
theorem x_shut_i {X : zX} {H : zHp} {S : zU} {i : Nat} {Q : Option Value → zHp → Prop} (hI : zIX H S) (hi : i < 65) (hQ : Q (some (.long (H.2.2 19 i))) H) : zCall X 55 65 [.ref 14, .int (nI i)] H Q := by
  have hR := hI.1
  refine zgo_call 20 (by decide) (by decide +kernel) True.intro ?_
  simp (disch := first | assumption | omega) only [l_g0, l_gs, l_s0, l_s1, l_ss, l_sn0, l_sns, l_ki, l_kr, l_kl, l_ka, l_en, l_ei, l_er, t_I, t_R, t_W0, t_Wi, t_Wr, t_v0, t_v2, t_v3, i_p1, i_m1, t_k0, t_k1, k_some, k_none, true_and, and_true, ite_true, ite_false, Fin.isValue, l_t0, l_t1, l_ts, l_tn0, l_tns, l_el, t_L, t_Wl, t_v1, t_l0, t_l1, List.tail_cons, List.tail_nil, e_aload_n_0, e_arraylength0, e_getfield, e_goto0N, e_icmp_ge0N, e_if_lt0N, e_iload_n_1, e_invv1_1, e_laload0, e_lreturn, e_nop0N, b10_0, b55_0, b55_1, b55_2, ci10, ml10, q10_0, q55_0, q55_1, q55_2, zE55, zE10, o_0, o_1, o_2, a_2, w_2, o_3, a_3, w_3, o_4, o_5, a_5, w_5, o_6, o_7, a_7, w_7, o_8, o_9, a_9, w_9, o_10, o_11, a_11, w_11, o_12, o_13, a_13, w_13, o_14, o_15, o_16, a_16, w_16, o_17, a_17, w_17, o_18, a_18, w_18, o_19, a_19, w_19, o_20, a_20, w_20, o_21, o_22, a_22, w_22, o_23, o_24, a_24, w_24, o_25, a_25, w_25, o_50, o_51, a_51, w_51, o_52, a_52, w_52, o_53, a_53, w_53, o_54, a_54, w_54, o_55, a_55, w_55, o_56, a_56, w_56, o_57, a_57, w_57, o_58, a_58, w_58, o_59, a_59, w_59, o_60, a_60, w_60, o_61, a_61, w_61, o_62, a_62, w_62, o_63, a_63, w_63, o_64, a_64, w_64, o_rp, o_rs, a_rs, w_rs, r_0_0, r_0_1, r_0_2, r_0_3, r_0_4, r_0_5, r_0_6, r_0_7, r_0_12, r_1_3, r_4_0, r_4_1, r_6_0, r_8_0, r_10_2, r_12_2, r_14_0, r_14_1, r_14_2, r_14_3, r_14_4, r_14_5, r_15_2, r_21_0, r_23_0, r_50_1, r_50_5, r_50_6, r_50_7, r_50_8, r_50_10, r_50_11, r_50_12, r_50_13, r_50_14, r_50_17, r_50_18, r_50_21, r_50_23, r_rp, r_rs, h_Fs, h_FF, h_FI, h_FL, h_Is, h_II, h_IF, h_IL, h_Ls, h_LL, h_LF, h_LI, nI_ltT, nI_ltF, nI_leT, nI_leF, nI_eqT, nI_eqF, ng_ltT, ng_ltF, ng_leT, ng_leF, ng_eqF, ng_eqG, n_ltT, n_leT, n_ltF, n_leF, n_eqF, n_eqG, ng_inj, zix_nI, zinR_nI, nI_add, ↓reduceIte, true_or, or_true, or_self, not_true, not_false, Nat.reduceAdd, l_s0g, l_s1g, l_t0g, List.tail_cons, List.tail_nil]
  exact hQ
theorem x_near_b {X : zX} {H : zHp} {i r : Nat} {Q : Option Value → zHp → Prop} (hi : 0 < i ∧ i < 1000) (hQ : Q (some (.long (lN 0))) H) : zCall X 56 65 [.ref 14, .int (-nI i), .int (nI r)] H Q := by
  refine zgo_call 20 (by decide) (by decide +kernel) True.intro ?_
  have e : (-nI i < nI 0) = True := ng_ltT (by omega) (by omega) (by omega)
  simp (disch := first | assumption | omega) only [l_g0, l_gs, l_s0, l_s1, l_ss, l_sn0, l_sns, l_ki, l_kr, l_kl, l_ka, l_en, l_ei, l_er, t_I, t_R, t_W0, t_Wi, t_Wr, t_v0, t_v2, t_v3, i_p1, i_m1, t_k0, t_k1, k_some, k_none, true_and, and_true, ite_true, ite_false, Fin.isValue, l_t0, l_t1, l_ts, l_tn0, l_tns, l_el, t_L, t_Wl, t_v1, t_l0, t_l1, List.tail_cons, List.tail_nil, e_aload_n_0, e_arraylength0, e_getfield, e_goto0N, e_iaload0, e_icmp_lt0N, e_iconst, e_if_eq0N, e_if_lt0N, e_iload_n_1, e_iload_n_2, e_invv1_1, e_invv3_0, e_ireturn, e_isub, e_land, e_lconst, e_ldc2_w, e_lload, e_lload_n_3, e_lor, e_lreturn, e_lshl, e_lstore, e_lstore_n_3, e_lxor, e_nop0N, b56_0, b56_1, b56_2, b56_3, b56_4, b9_0, ci16, ci9, ml9, q56_0, q56_1, q56_2, q56_3, q56_4, q9_0, zE56, zE9, o_0, o_1, o_2, a_2, w_2, o_3, a_3, w_3, o_4, o_5, a_5, w_5, o_6, o_7, a_7, w_7, o_8, o_9, a_9, w_9, o_10, o_11, a_11, w_11, o_12, o_13, a_13, w_13, o_14, o_15, o_16, a_16, w_16, o_17, a_17, w_17, o_18, a_18, w_18, o_19, a_19, w_19, o_20, a_20, w_20, o_21, o_22, a_22, w_22, o_23, o_24, a_24, w_24, o_25, a_25, w_25, o_50, o_51, a_51, w_51, o_52, a_52, w_52, o_53, a_53, w_53, o_54, a_54, w_54, o_55, a_55, w_55, o_56, a_56, w_56, o_57, a_57, w_57, o_58, a_58, w_58, o_59, a_59, w_59, o_60, a_60, w_60, o_61, a_61, w_61, o_62, a_62, w_62, o_63, a_63, w_63, o_64, a_64, w_64, o_rp, o_rs, a_rs, w_rs, r_0_0, r_0_1, r_0_2, r_0_3, r_0_4, r_0_5, r_0_6, r_0_7, r_0_12, r_1_3, r_4_0, r_4_1, r_6_0, r_8_0, r_10_2, r_12_2, r_14_0, r_14_1, r_14_2, r_14_3, r_14_4, r_14_5, r_15_2, r_21_0, r_23_0, r_50_1, r_50_5, r_50_6, r_50_7, r_50_8, r_50_10, r_50_11, r_50_12, r_50_13, r_50_14, r_50_17, r_50_18, r_50_21, r_50_23, r_rp, r_rs, h_Fs, h_FF, h_FI, h_FL, h_Is, h_II, h_IF, h_IL, h_Ls, h_LL, h_LF, h_LI, nI_ltT, nI_ltF, nI_leT, nI_leF, nI_eqT, nI_eqF, ng_ltT, ng_ltF, ng_leT, ng_leF, ng_eqF, ng_eqG, n_ltT, n_leT, n_ltF, n_leF, n_eqF, n_eqG, ng_inj, zix_nI, zinR_nI, nI_add, ↓reduceIte, true_or, or_true, or_self, not_true, not_false, Nat.reduceAdd, l_s0g, l_s1g, l_t0g, List.tail_cons, List.tail_nil, e]
  exact hQ
theorem nI_subng {a b : Nat} (h : a ≤ b) : nI a - nI b = -nI (b - a) := by
  have e : nI b = nI (b - a) + nI a := by rw [nI_add]; congr 1; omega
  rw [e, Int32.sub_eq_add_neg, Int32.neg_add, Int32.sub_eq_add_neg, Int32.add_comm (-nI (b - a)), ← Int32.add_assoc, Int32.add_right_neg, Int32.zero_add]
theorem x_tooNear {X : zX} {H : zHp} {S : zU} {ring : Bool} {i s : Nat} {w : List Nat} {Q : Option Value → zHp → Prop} (hI : zIX H S) (hS : zUok S) (hc : zcor w i < 64) (hi : i < 65) (hs : s < 3) (h6 : H.1 14 6 = .int (zb1 ring)) (e17 : H.2.1 17 i = nI (zcor w i)) (hQ : ∀ r : Int64, (∀ d, d < 64 → zbit r d = zne S.1.2.1 ring w i s d) → Q (some (.long r)) H) : zCall X 56 65 [.ref 14, .int (nI i), .int (nI s)] H Q := by
  have hR := hI.1
  have g := hI.2.1
  have hk := hS.1.2.2
  have fin : ∀ near home : Int64, (∀ d, d < 64 → zbit near d = zball s (zcor w i) d) → (∀ d, d < 64 → zbit home d = (ring && decide (i + zpc d < S.1.2.1))) → ∀ d, d < 64 → zbit (near &&& (home ^^^ -lN 1) ||| lN 1 <<< ((nI (zcor w i)).toInt64 &&& 63)) d = zne S.1.2.1 ring w i s d := by
    intro near home h1 h2 d hd
    rw [zbit_or, zbit_and, zbit_not _ hd, h1 d hd, h2 d hd, zone_shl _ hc d hd]
    rfl
  refine zgo_call 20 (by decide) (by decide +kernel) True.intro ?_
  simp (disch := first | assumption | omega) only [l_g0, l_gs, l_s0, l_s1, l_ss, l_sn0, l_sns, l_ki, l_kr, l_kl, l_ka, l_en, l_ei, l_er, t_I, t_R, t_W0, t_Wi, t_Wr, t_v0, t_v2, t_v3, i_p1, i_m1, t_k0, t_k1, k_some, k_none, true_and, and_true, ite_true, ite_false, Fin.isValue, l_t0, l_t1, l_ts, l_tn0, l_tns, l_el, t_L, t_Wl, t_v1, t_l0, t_l1, List.tail_cons, List.tail_nil, e_aload_n_0, e_arraylength0, e_getfield, e_goto0N, e_iaload0, e_icmp_lt0N, e_iconst, e_if_eq0N, e_if_lt0N, e_iload_n_1, e_iload_n_2, e_invv1_1, e_invv3_0, e_ireturn, e_isub, e_land, e_lconst, e_ldc2_w, e_lload, e_lload_n_3, e_lor, e_lreturn, e_lshl, e_lstore, e_lstore_n_3, e_lxor, e_nop0N, b56_0, b56_1, b56_2, b56_3, b56_4, b9_0, ci16, ci9, ml9, q56_0, q56_1, q56_2, q56_3, q56_4, q9_0, zE56, zE9, o_0, o_1, o_2, a_2, w_2, o_3, a_3, w_3, o_4, o_5, a_5, w_5, o_6, o_7, a_7, w_7, o_8, o_9, a_9, w_9, o_10, o_11, a_11, w_11, o_12, o_13, a_13, w_13, o_14, o_15, o_16, a_16, w_16, o_17, a_17, w_17, o_18, a_18, w_18, o_19, a_19, w_19, o_20, a_20, w_20, o_21, o_22, a_22, w_22, o_23, o_24, a_24, w_24, o_25, a_25, w_25, o_50, o_51, a_51, w_51, o_52, a_52, w_52, o_53, a_53, w_53, o_54, a_54, w_54, o_55, a_55, w_55, o_56, a_56, w_56, o_57, a_57, w_57, o_58, a_58, w_58, o_59, a_59, w_59, o_60, a_60, w_60, o_61, a_61, w_61, o_62, a_62, w_62, o_63, a_63, w_63, o_64, a_64, w_64, o_rp, o_rs, a_rs, w_rs, r_0_0, r_0_1, r_0_2, r_0_3, r_0_4, r_0_5, r_0_6, r_0_7, r_0_12, r_1_3, r_4_0, r_4_1, r_6_0, r_8_0, r_10_2, r_12_2, r_14_0, r_14_1, r_14_2, r_14_3, r_14_4, r_14_5, r_15_2, r_21_0, r_23_0, r_50_1, r_50_5, r_50_6, r_50_7, r_50_8, r_50_10, r_50_11, r_50_12, r_50_13, r_50_14, r_50_17, r_50_18, r_50_21, r_50_23, r_rp, r_rs, h_Fs, h_FF, h_FI, h_FL, h_Is, h_II, h_IF, h_IL, h_Ls, h_LL, h_LF, h_LI, nI_ltT, nI_ltF, nI_leT, nI_leF, nI_eqT, nI_eqF, ng_ltT, ng_ltF, ng_leT, ng_leF, ng_eqF, ng_eqG, n_ltT, n_leT, n_ltF, n_leF, n_eqF, n_eqG, ng_inj, zix_nI, zinR_nI, nI_add, ↓reduceIte, true_or, or_true, or_self, not_true, not_false, Nat.reduceAdd, l_s0g, l_s1g, l_t0g, List.tail_cons, List.tail_nil, e17]
  refine x_near hI hc hs (fun near hnear => ?_)
  cases ring
  · have hQ := hQ _ (fin near (lN 0) hnear (fun d hd => by rw [zbit_0, Bool.false_and]))
    simp (disch := first | assumption | omega) only [l_g0, l_gs, l_s0, l_s1, l_ss, l_sn0, l_sns, l_ki, l_kr, l_kl, l_ka, l_en, l_ei, l_er, t_I, t_R, t_W0, t_Wi, t_Wr, t_v0, t_v2, t_v3, i_p1, i_m1, t_k0, t_k1, k_some, k_none, true_and, and_true, ite_true, ite_false, Fin.isValue, l_t0, l_t1, l_ts, l_tn0, l_tns, l_el, t_L, t_Wl, t_v1, t_l0, t_l1, List.tail_cons, List.tail_nil, e_aload_n_0, e_arraylength0, e_getfield, e_goto0N, e_iaload0, e_icmp_lt0N, e_iconst, e_if_eq0N, e_if_lt0N, e_iload_n_1, e_iload_n_2, e_invv1_1, e_invv3_0, e_ireturn, e_isub, e_land, e_lconst, e_ldc2_w, e_lload, e_lload_n_3, e_lor, e_lreturn, e_lshl, e_lstore, e_lstore_n_3, e_lxor, e_nop0N, b56_0, b56_1, b56_2, b56_3, b56_4, b9_0, ci16, ci9, ml9, q56_0, q56_1, q56_2, q56_3, q56_4, q9_0, zE56, zE9, o_0, o_1, o_2, a_2, w_2, o_3, a_3, w_3, o_4, o_5, a_5, w_5, o_6, o_7, a_7, w_7, o_8, o_9, a_9, w_9, o_10, o_11, a_11, w_11, o_12, o_13, a_13, w_13, o_14, o_15, o_16, a_16, w_16, o_17, a_17, w_17, o_18, a_18, w_18, o_19, a_19, w_19, o_20, a_20, w_20, o_21, o_22, a_22, w_22, o_23, o_24, a_24, w_24, o_25, a_25, w_25, o_50, o_51, a_51, w_51, o_52, a_52, w_52, o_53, a_53, w_53, o_54, a_54, w_54, o_55, a_55, w_55, o_56, a_56, w_56, o_57, a_57, w_57, o_58, a_58, w_58, o_59, a_59, w_59, o_60, a_60, w_60, o_61, a_61, w_61, o_62, a_62, w_62, o_63, a_63, w_63, o_64, a_64, w_64, o_rp, o_rs, a_rs, w_rs, r_0_0, r_0_1, r_0_2, r_0_3, r_0_4, r_0_5, r_0_6, r_0_7, r_0_12, r_1_3, r_4_0, r_4_1, r_6_0, r_8_0, r_10_2, r_12_2, r_14_0, r_14_1, r_14_2, r_14_3, r_14_4, r_14_5, r_15_2, r_21_0, r_23_0, r_50_1, r_50_5, r_50_6, r_50_7, r_50_8, r_50_10, r_50_11, r_50_12, r_50_13, r_50_14, r_50_17, r_50_18, r_50_21, r_50_23, r_rp, r_rs, h_Fs, h_FF, h_FI, h_FL, h_Is, h_II, h_IF, h_IL, h_Ls, h_LL, h_LF, h_LI, nI_ltT, nI_ltF, nI_leT, nI_leF, nI_eqT, nI_eqF, ng_ltT, ng_ltF, ng_leT, ng_leF, ng_eqF, ng_eqG, n_ltT, n_leT, n_ltF, n_leF, n_eqF, n_eqG, ng_inj, zix_nI, zinR_nI, nI_add, ↓reduceIte, true_or, or_true, or_self, not_true, not_false, Nat.reduceAdd, l_s0g, l_s1g, l_t0g, List.tail_cons, List.tail_nil, e17, h6, zb1_f]
    exact hQ
  · by_cases hik : i < S.1.2.1
    · have e1 : nI S.1.2.1 - nI 1 - nI i = nI (S.1.2.1 - 1 - i) := by
        rw [nI_sub hk.1, nI_sub (by omega)]
      simp (disch := first | assumption | omega) only [l_g0, l_gs, l_s0, l_s1, l_ss, l_sn0, l_sns, l_ki, l_kr, l_kl, l_ka, l_en, l_ei, l_er, t_I, t_R, t_W0, t_Wi, t_Wr, t_v0, t_v2, t_v3, i_p1, i_m1, t_k0, t_k1, k_some, k_none, true_and, and_true, ite_true, ite_false, Fin.isValue, l_t0, l_t1, l_ts, l_tn0, l_tns, l_el, t_L, t_Wl, t_v1, t_l0, t_l1, List.tail_cons, List.tail_nil, e_aload_n_0, e_arraylength0, e_getfield, e_goto0N, e_iaload0, e_icmp_lt0N, e_iconst, e_if_eq0N, e_if_lt0N, e_iload_n_1, e_iload_n_2, e_invv1_1, e_invv3_0, e_ireturn, e_isub, e_land, e_lconst, e_ldc2_w, e_lload, e_lload_n_3, e_lor, e_lreturn, e_lshl, e_lstore, e_lstore_n_3, e_lxor, e_nop0N, b56_0, b56_1, b56_2, b56_3, b56_4, b9_0, ci16, ci9, ml9, q56_0, q56_1, q56_2, q56_3, q56_4, q9_0, zE56, zE9, o_0, o_1, o_2, a_2, w_2, o_3, a_3, w_3, o_4, o_5, a_5, w_5, o_6, o_7, a_7, w_7, o_8, o_9, a_9, w_9, o_10, o_11, a_11, w_11, o_12, o_13, a_13, w_13, o_14, o_15, o_16, a_16, w_16, o_17, a_17, w_17, o_18, a_18, w_18, o_19, a_19, w_19, o_20, a_20, w_20, o_21, o_22, a_22, w_22, o_23, o_24, a_24, w_24, o_25, a_25, w_25, o_50, o_51, a_51, w_51, o_52, a_52, w_52, o_53, a_53, w_53, o_54, a_54, w_54, o_55, a_55, w_55, o_56, a_56, w_56, o_57, a_57, w_57, o_58, a_58, w_58, o_59, a_59, w_59, o_60, a_60, w_60, o_61, a_61, w_61, o_62, a_62, w_62, o_63, a_63, w_63, o_64, a_64, w_64, o_rp, o_rs, a_rs, w_rs, r_0_0, r_0_1, r_0_2, r_0_3, r_0_4, r_0_5, r_0_6, r_0_7, r_0_12, r_1_3, r_4_0, r_4_1, r_6_0, r_8_0, r_10_2, r_12_2, r_14_0, r_14_1, r_14_2, r_14_3, r_14_4, r_14_5, r_15_2, r_21_0, r_23_0, r_50_1, r_50_5, r_50_6, r_50_7, r_50_8, r_50_10, r_50_11, r_50_12, r_50_13, r_50_14, r_50_17, r_50_18, r_50_21, r_50_23, r_rp, r_rs, h_Fs, h_FF, h_FI, h_FL, h_Is, h_II, h_IF, h_IL, h_Ls, h_LL, h_LF, h_LI, nI_ltT, nI_ltF, nI_leT, nI_leF, nI_eqT, nI_eqF, ng_ltT, ng_ltF, ng_leT, ng_leF, ng_eqF, ng_eqG, n_ltT, n_leT, n_ltF, n_leF, n_eqF, n_eqG, ng_inj, zix_nI, zinR_nI, nI_add, ↓reduceIte, true_or, or_true, or_self, not_true, not_false, Nat.reduceAdd, l_s0g, l_s1g, l_t0g, List.tail_cons, List.tail_nil, e17, h6, zb1_t, g, e1]
      refine x_near hI (by decide) (by omega) (fun home hhome => ?_)
      have hQ := hQ _ (fin near home hnear (fun d hd => by
        rw [hhome d hd, Bool.true_and]
        unfold zball
        rw [Nat.zero_xor, decide_eq_decide]
        omega))
      simp (disch := first | assumption | omega) only [l_g0, l_gs, l_s0, l_s1, l_ss, l_sn0, l_sns, l_ki, l_kr, l_kl, l_ka, l_en, l_ei, l_er, t_I, t_R, t_W0, t_Wi, t_Wr, t_v0, t_v2, t_v3, i_p1, i_m1, t_k0, t_k1, k_some, k_none, true_and, and_true, ite_true, ite_false, Fin.isValue, l_t0, l_t1, l_ts, l_tn0, l_tns, l_el, t_L, t_Wl, t_v1, t_l0, t_l1, List.tail_cons, List.tail_nil, e_aload_n_0, e_arraylength0, e_getfield, e_goto0N, e_iaload0, e_icmp_lt0N, e_iconst, e_if_eq0N, e_if_lt0N, e_iload_n_1, e_iload_n_2, e_invv1_1, e_invv3_0, e_ireturn, e_isub, e_land, e_lconst, e_ldc2_w, e_lload, e_lload_n_3, e_lor, e_lreturn, e_lshl, e_lstore, e_lstore_n_3, e_lxor, e_nop0N, b56_0, b56_1, b56_2, b56_3, b56_4, b9_0, ci16, ci9, ml9, q56_0, q56_1, q56_2, q56_3, q56_4, q9_0, zE56, zE9, o_0, o_1, o_2, a_2, w_2, o_3, a_3, w_3, o_4, o_5, a_5, w_5, o_6, o_7, a_7, w_7, o_8, o_9, a_9, w_9, o_10, o_11, a_11, w_11, o_12, o_13, a_13, w_13, o_14, o_15, o_16, a_16, w_16, o_17, a_17, w_17, o_18, a_18, w_18, o_19, a_19, w_19, o_20, a_20, w_20, o_21, o_22, a_22, w_22, o_23, o_24, a_24, w_24, o_25, a_25, w_25, o_50, o_51, a_51, w_51, o_52, a_52, w_52, o_53, a_53, w_53, o_54, a_54, w_54, o_55, a_55, w_55, o_56, a_56, w_56, o_57, a_57, w_57, o_58, a_58, w_58, o_59, a_59, w_59, o_60, a_60, w_60, o_61, a_61, w_61, o_62, a_62, w_62, o_63, a_63, w_63, o_64, a_64, w_64, o_rp, o_rs, a_rs, w_rs, r_0_0, r_0_1, r_0_2, r_0_3, r_0_4, r_0_5, r_0_6, r_0_7, r_0_12, r_1_3, r_4_0, r_4_1, r_6_0, r_8_0, r_10_2, r_12_2, r_14_0, r_14_1, r_14_2, r_14_3, r_14_4, r_14_5, r_15_2, r_21_0, r_23_0, r_50_1, r_50_5, r_50_6, r_50_7, r_50_8, r_50_10, r_50_11, r_50_12, r_50_13, r_50_14, r_50_17, r_50_18, r_50_21, r_50_23, r_rp, r_rs, h_Fs, h_FF, h_FI, h_FL, h_Is, h_II, h_IF, h_IL, h_Ls, h_LL, h_LF, h_LI, nI_ltT, nI_ltF, nI_leT, nI_leF, nI_eqT, nI_eqF, ng_ltT, ng_ltF, ng_leT, ng_leF, ng_eqF, ng_eqG, n_ltT, n_leT, n_ltF, n_leF, n_eqF, n_eqG, ng_inj, zix_nI, zinR_nI, nI_add, ↓reduceIte, true_or, or_true, or_self, not_true, not_false, Nat.reduceAdd, l_s0g, l_s1g, l_t0g, List.tail_cons, List.tail_nil, e17]
      exact hQ
    · have e1 : nI S.1.2.1 - nI 1 - nI i = -nI (i - (S.1.2.1 - 1)) := by
        rw [nI_sub hk.1, nI_subng (by omega)]
      simp (disch := first | assumption | omega) only [l_g0, l_gs, l_s0, l_s1, l_ss, l_sn0, l_sns, l_ki, l_kr, l_kl, l_ka, l_en, l_ei, l_er, t_I, t_R, t_W0, t_Wi, t_Wr, t_v0, t_v2, t_v3, i_p1, i_m1, t_k0, t_k1, k_some, k_none, true_and, and_true, ite_true, ite_false, Fin.isValue, l_t0, l_t1, l_ts, l_tn0, l_tns, l_el, t_L, t_Wl, t_v1, t_l0, t_l1, List.tail_cons, List.tail_nil, e_aload_n_0, e_arraylength0, e_getfield, e_goto0N, e_iaload0, e_icmp_lt0N, e_iconst, e_if_eq0N, e_if_lt0N, e_iload_n_1, e_iload_n_2, e_invv1_1, e_invv3_0, e_ireturn, e_isub, e_land, e_lconst, e_ldc2_w, e_lload, e_lload_n_3, e_lor, e_lreturn, e_lshl, e_lstore, e_lstore_n_3, e_lxor, e_nop0N, b56_0, b56_1, b56_2, b56_3, b56_4, b9_0, ci16, ci9, ml9, q56_0, q56_1, q56_2, q56_3, q56_4, q9_0, zE56, zE9, o_0, o_1, o_2, a_2, w_2, o_3, a_3, w_3, o_4, o_5, a_5, w_5, o_6, o_7, a_7, w_7, o_8, o_9, a_9, w_9, o_10, o_11, a_11, w_11, o_12, o_13, a_13, w_13, o_14, o_15, o_16, a_16, w_16, o_17, a_17, w_17, o_18, a_18, w_18, o_19, a_19, w_19, o_20, a_20, w_20, o_21, o_22, a_22, w_22, o_23, o_24, a_24, w_24, o_25, a_25, w_25, o_50, o_51, a_51, w_51, o_52, a_52, w_52, o_53, a_53, w_53, o_54, a_54, w_54, o_55, a_55, w_55, o_56, a_56, w_56, o_57, a_57, w_57, o_58, a_58, w_58, o_59, a_59, w_59, o_60, a_60, w_60, o_61, a_61, w_61, o_62, a_62, w_62, o_63, a_63, w_63, o_64, a_64, w_64, o_rp, o_rs, a_rs, w_rs, r_0_0, r_0_1, r_0_2, r_0_3, r_0_4, r_0_5, r_0_6, r_0_7, r_0_12, r_1_3, r_4_0, r_4_1, r_6_0, r_8_0, r_10_2, r_12_2, r_14_0, r_14_1, r_14_2, r_14_3, r_14_4, r_14_5, r_15_2, r_21_0, r_23_0, r_50_1, r_50_5, r_50_6, r_50_7, r_50_8, r_50_10, r_50_11, r_50_12, r_50_13, r_50_14, r_50_17, r_50_18, r_50_21, r_50_23, r_rp, r_rs, h_Fs, h_FF, h_FI, h_FL, h_Is, h_II, h_IF, h_IL, h_Ls, h_LL, h_LF, h_LI, nI_ltT, nI_ltF, nI_leT, nI_leF, nI_eqT, nI_eqF, ng_ltT, ng_ltF, ng_leT, ng_leF, ng_eqF, ng_eqG, n_ltT, n_leT, n_ltF, n_leF, n_eqF, n_eqG, ng_inj, zix_nI, zinR_nI, nI_add, ↓reduceIte, true_or, or_true, or_self, not_true, not_false, Nat.reduceAdd, l_s0g, l_s1g, l_t0g, List.tail_cons, List.tail_nil, e17, h6, zb1_t, g, e1]
      refine x_near_n (by decide) ⟨by omega, by omega⟩ ?_
      have hQ := hQ _ (fin near (lN 0) hnear (fun d hd => by
        rw [zbit_0, Bool.true_and, decide_eq_false (by omega)]))
      simp (disch := first | assumption | omega) only [l_g0, l_gs, l_s0, l_s1, l_ss, l_sn0, l_sns, l_ki, l_kr, l_kl, l_ka, l_en, l_ei, l_er, t_I, t_R, t_W0, t_Wi, t_Wr, t_v0, t_v2, t_v3, i_p1, i_m1, t_k0, t_k1, k_some, k_none, true_and, and_true, ite_true, ite_false, Fin.isValue, l_t0, l_t1, l_ts, l_tn0, l_tns, l_el, t_L, t_Wl, t_v1, t_l0, t_l1, List.tail_cons, List.tail_nil, e_aload_n_0, e_arraylength0, e_getfield, e_goto0N, e_iaload0, e_icmp_lt0N, e_iconst, e_if_eq0N, e_if_lt0N, e_iload_n_1, e_iload_n_2, e_invv1_1, e_invv3_0, e_ireturn, e_isub, e_land, e_lconst, e_ldc2_w, e_lload, e_lload_n_3, e_lor, e_lreturn, e_lshl, e_lstore, e_lstore_n_3, e_lxor, e_nop0N, b56_0, b56_1, b56_2, b56_3, b56_4, b9_0, ci16, ci9, ml9, q56_0, q56_1, q56_2, q56_3, q56_4, q9_0, zE56, zE9, o_0, o_1, o_2, a_2, w_2, o_3, a_3, w_3, o_4, o_5, a_5, w_5, o_6, o_7, a_7, w_7, o_8, o_9, a_9, w_9, o_10, o_11, a_11, w_11, o_12, o_13, a_13, w_13, o_14, o_15, o_16, a_16, w_16, o_17, a_17, w_17, o_18, a_18, w_18, o_19, a_19, w_19, o_20, a_20, w_20, o_21, o_22, a_22, w_22, o_23, o_24, a_24, w_24, o_25, a_25, w_25, o_50, o_51, a_51, w_51, o_52, a_52, w_52, o_53, a_53, w_53, o_54, a_54, w_54, o_55, a_55, w_55, o_56, a_56, w_56, o_57, a_57, w_57, o_58, a_58, w_58, o_59, a_59, w_59, o_60, a_60, w_60, o_61, a_61, w_61, o_62, a_62, w_62, o_63, a_63, w_63, o_64, a_64, w_64, o_rp, o_rs, a_rs, w_rs, r_0_0, r_0_1, r_0_2, r_0_3, r_0_4, r_0_5, r_0_6, r_0_7, r_0_12, r_1_3, r_4_0, r_4_1, r_6_0, r_8_0, r_10_2, r_12_2, r_14_0, r_14_1, r_14_2, r_14_3, r_14_4, r_14_5, r_15_2, r_21_0, r_23_0, r_50_1, r_50_5, r_50_6, r_50_7, r_50_8, r_50_10, r_50_11, r_50_12, r_50_13, r_50_14, r_50_17, r_50_18, r_50_21, r_50_23, r_rp, r_rs, h_Fs, h_FF, h_FI, h_FL, h_Is, h_II, h_IF, h_IL, h_Ls, h_LL, h_LF, h_LI, nI_ltT, nI_ltF, nI_leT, nI_leF, nI_eqT, nI_eqF, ng_ltT, ng_ltF, ng_leT, ng_leF, ng_eqF, ng_eqG, n_ltT, n_leT, n_ltF, n_leF, n_eqF, n_eqG, ng_inj, zix_nI, zinR_nI, nI_add, ↓reduceIte, true_or, or_true, or_self, not_true, not_false, Nat.reduceAdd, l_s0g, l_s1g, l_t0g, List.tail_cons, List.tail_nil, e17]
      exact hQ
