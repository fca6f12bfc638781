/-! rows of ways as numbers: corners, what is too near -/
theorem zmin_n {a b : Nat} (ha : a < 2 ^ 31) (hb : b < 2 ^ 31) : zmin (nI a) (nI b) = nI (min a b) := by
  unfold zmin
  by_cases h : b < a
  · rw [if_pos (nI_lt h ha), Nat.min_eq_right (by omega)]
  · rw [if_neg (nI_nlt (by omega) hb), Nat.min_eq_left (by omega)]
theorem zmax_n {a b : Nat} (ha : a < 2 ^ 31) (hb : b < 2 ^ 31) : zmax (nI a) (nI b) = nI (max a b) := by
  unfold zmax
  by_cases h : a < b
  · rw [if_pos (nI_lt h hb), Nat.max_eq_right (by omega)]
  · rw [if_neg (nI_nlt (by omega) ha), Nat.max_eq_left (by omega)]
def zcor (w : List Nat) : Nat → Nat
  | 0 => 0
  | i + 1 => zcor w i ^^^ 2 ^ w.getD i 0
theorem zcor_lt {w : List Nat} (h : zrow w) : ∀ i, zcor w i < 64
  | 0 => by show 0 < 64; decide
  | i + 1 => Nat.xor_lt_two_pow (n := 6) (zcor_lt h i) (Nat.pow_lt_pow_right (by decide) (z_row_at0 h i))
theorem z_app_lt0 {w v : List Nat} {j : Nat} (h : j < w.length) : (w ++ v).getD j 0 = w.getD j 0 := z_app_lt h
theorem zcor_app {w v : List Nat} : ∀ {i : Nat}, i ≤ w.length → zcor (w ++ v) i = zcor w i
  | 0, _ => rfl
  | i + 1, h => by
    show zcor (w ++ v) i ^^^ 2 ^ (w ++ v).getD i 0 = zcor w i ^^^ 2 ^ w.getD i 0
    rw [zcor_app (by omega), z_app_lt (by omega)]
theorem zcor_s (w : List Nat) (x : Nat) : zcor (w ++ [x]) (w.length + 1) = zcor w w.length ^^^ 2 ^ x := by
  show zcor (w ++ [x]) w.length ^^^ 2 ^ (w ++ [x]).getD w.length 0 = _
  rw [zcor_app (Nat.le_refl _), z_app_last]
theorem zx_lt {a b : Nat} (ha : a < 64) (hb : b < 64) : a ^^^ b < 64 := Nat.xor_lt_two_pow (n := 6) ha hb
theorem zpc_le : ∀ c, c < 64 → zpc c ≤ 6 := by decide +kernel
/-- the first below n of which it holds -/
def zff (p : Nat → Bool) : Nat → Option Nat
  | 0 => none
  | n + 1 => match zff p n with
    | some i => some i
    | none => if p n then some n else none
theorem zff_none {p : Nat → Bool} : ∀ {n : Nat}, zff p n = none ↔ ∀ i, i < n → p i = false
  | 0 => ⟨fun _ i hi => absurd hi (by omega), fun _ => rfl⟩
  | n + 1 => by
    unfold zff
    cases h : zff p n with
    | some i =>
      refine ⟨fun e => (by cases e), fun e => ?_⟩
      have : zff p n = none := zff_none.mpr (fun j hj => e j (by omega))
      rw [this] at h
      cases h
    | none =>
      have h2 := zff_none.mp h
      cases hp : p n
      · refine ⟨fun _ i hi => ?_, fun _ => (by simp)⟩
        rcases Nat.lt_or_ge i n with q | q
        · exact h2 i q
        · have : i = n := by omega
          subst this; exact hp
      · refine ⟨fun e => (by simp at e), fun e => ?_⟩
        have := e n (by omega)
        rw [hp] at this
        cases this
theorem zff_some {p : Nat → Bool} : ∀ {n i : Nat}, zff p n = some i → i < n ∧ p i = true ∧ ∀ j, j < i → p j = false
  | 0, i, h => by cases h
  | n + 1, i, h => by
    unfold zff at h
    cases h2 : zff p n with
    | some k =>
      rw [h2] at h
      cases h
      have := zff_some h2
      exact ⟨by omega, this.2⟩
    | none =>
      rw [h2] at h
      have h3 := zff_none.mp h2
      cases hp : p n
      · rw [hp] at h; simp at h
      · rw [hp] at h
        simp at h
        subst h
        exact ⟨by omega, hp, h3⟩
theorem zff_of {p : Nat → Bool} {n i : Nat} (hi : i < n) (hp : p i = true) (h : ∀ j, j < i → p j = false) : zff p n = some i := by
  cases h2 : zff p n with
  | none =>
    have := zff_none.mp h2 i hi
    rw [hp] at this
    cases this
  | some k =>
    have h3 := zff_some h2
    rcases Nat.lt_trichotomy i k with q | q | q
    · have := h3.2.2 i q
      rw [hp] at this
      cases this
    · rw [q]
    · have := h k q
      rw [h3.2.1] at this
      cases this
theorem zff_cong {p q : Nat → Bool} {n : Nat} (h : ∀ i, i < n → p i = q i) : zff p n = zff q n := by
  induction n with
  | zero => rfl
  | succ n ih =>
    unfold zff
    rw [ih (fun i hi => h i (by omega)), h n (by omega)]
/-- a number, or none -/
def zoN : Option Nat → Int32
  | none => -nI 9
  | some i => nI i
theorem zoN_none : zoN none = -nI 9 := rfl
theorem zoN_some (i : Nat) : zoN (some i) = nI i := rfl
/-- it holds of all below n -/
def zga (p : Nat → Bool) : Nat → Bool
  | 0 => true
  | n + 1 => zga p n && p n
theorem zga_iff {p : Nat → Bool} : ∀ {n : Nat}, zga p n = true ↔ ∀ i, i < n → p i = true
  | 0 => ⟨fun _ i hi => absurd hi (by omega), fun _ => rfl⟩
  | n + 1 => by
    unfold zga
    rw [Bool.and_eq_true, zga_iff (n := n)]
    refine ⟨fun h i hi => ?_, fun h => ⟨fun i hi => h i (by omega), h n (by omega)⟩⟩
    rcases Nat.lt_or_ge i n with q | q
    · exact h.1 i q
    · have : i = n := by omega
      subst this; exact h.2
theorem zga_cong {p q : Nat → Bool} {n : Nat} (h : ∀ i, i < n → p i = q i) : zga p n = zga q n := by
  induction n with
  | zero => rfl
  | succ n ih =>
    unfold zga
    rw [ih (fun i hi => h i (by omega)), h n (by omega)]
def zb1 (b : Bool) : Int32 := nI (if b then 1 else 0)
theorem zb1_t : zb1 true = nI 1 := rfl
theorem zb1_f : zb1 false = nI 0 := rfl
/-- whether place i is too near to place j, i < j -/
def znr (k : Nat) (w : List Nat) (j i : Nat) : Bool := decide (zpc (zcor w i ^^^ zcor w j) < min (j - i) k)
def zcau (k : Nat) (B : Int64) (w : List Nat) (j : Nat) : Option Nat := if zbit B (zcor w j) then some j else zff (znr k w j) j
def zwr (D k : Nat) (B : Int64) (w : List Nat) (j : Nat) : Option Nat := if (0 < j ∧ D ≤ w.getD (j - 1) 0) then some j else zcau k B w j
def zfw (D k : Nat) (B : Int64) (w : List Nat) : Option Nat := zff (fun j => (zwr D k B w j).isSome) (w.length + 1)
def zsnk (D k : Nat) (B : Int64) (w : List Nat) : Bool := (zfw D k B w).isNone
def zgo (D k : Nat) (B : Int64) (w : List Nat) : Nat := fb_ct (fun x => (zcau k B (w ++ [x]) (w.length + 1)).isNone) D
def zsr (k : Nat) : Nat := if k = 1 then 4 else 2 * k
def zri (D : Nat) (B : Int64) (w : List Nat) (i : Nat) : Bool := decide (w.getD i 0 < D) && !zbit B (zcor w i)
def zrf (k : Nat) (w : List Nat) (i j : Nat) : Bool := decide (min (min (j - i) (w.length - (j - i))) k ≤ zpc (zcor w i ^^^ zcor w j))
def zrg (D k : Nat) (B : Int64) (w : List Nat) : Bool := (decide (zsr k ≤ w.length) && decide (zcor w w.length = 0) && zga (zri D B w) w.length) && zga (fun j => zga (fun i => zrf k w i j) j) w.length
def zkd (D k : Nat) (B : Int64) (w : List Nat) : Nat := if zrg D k B w then 3 else if zsnk D k B w then (if zgo D k B w = 0 then 2 else 1) else 0
/-! whether two corners may stand so far from one another -/
theorem x_mayStand {X : zX} {H : zHp} {S : zU} {c d e : Nat} {Q : Option Value → zHp → Prop} (hI : zIX H S) (hS : zUok S) (hc : c < 64) (hd : d < 64) (he : e < 1000) (hQ : Q (some (.int (zb1 (decide (min e S.1.2.1 ≤ zpc (c ^^^ d)))))) H) : zCall X 17 65 [.ref 1, .int (nI c), .int (nI d), .int (nI e)] H Q := by
  have g := hI.2.1
  have hk := hS.1.2.2
  have hx := zx_lt hc hd
  have hp := zpc_le _ hx
  refine zgo_call 20 (by decide) (by decide +kernel) True.intro ?_
  simp (disch := first | assumption | omega) only [l_g0, l_gs, l_s0, l_s1, l_ss, l_sn0, l_sns, l_ki, l_kr, l_kl, l_ka, l_en, l_ei, l_er, t_I, t_R, t_W0, t_Wi, t_Wr, t_v0, t_v2, t_v3, i_p1, i_m1, t_k0, t_k1, k_some, k_none, true_and, and_true, ite_true, ite_false, Fin.isValue, l_t0, l_t1, l_ts, l_tn0, l_tns, l_el, t_L, t_Wl, t_v1, t_l0, t_l1, List.tail_cons, List.tail_nil, e_aload_n_0, e_getfield, e_goto0, e_icmp_lt0, e_iconst, e_iload_n_1, e_iload_n_2, e_iload_n_3, e_invs1_0, e_ireturn, e_ixor, e_min, e_nop0, b17_0, b17_1, b17_2, q17_0, q17_1, q17_2, zE17, o_0, o_1, o_2, a_2, w_2, o_3, a_3, w_3, o_4, o_5, a_5, w_5, o_6, o_7, a_7, w_7, o_8, o_9, a_9, w_9, o_10, o_11, a_11, w_11, o_12, o_13, a_13, w_13, o_14, o_15, o_16, a_16, w_16, o_17, a_17, w_17, o_18, a_18, w_18, o_19, a_19, w_19, o_20, a_20, w_20, o_21, o_22, a_22, w_22, o_23, o_24, a_24, w_24, o_25, a_25, w_25, o_50, o_51, a_51, w_51, o_52, a_52, w_52, o_53, a_53, w_53, o_54, a_54, w_54, o_55, a_55, w_55, o_56, a_56, w_56, o_57, a_57, w_57, o_58, a_58, w_58, o_59, a_59, w_59, o_60, a_60, w_60, o_61, a_61, w_61, o_62, a_62, w_62, o_63, a_63, w_63, o_64, a_64, w_64, o_rp, o_rs, a_rs, w_rs, r_0_0, r_0_1, r_0_2, r_0_3, r_0_4, r_0_5, r_0_6, r_0_7, r_0_12, r_1_3, r_4_0, r_4_1, r_6_0, r_8_0, r_10_2, r_12_2, r_14_0, r_14_1, r_14_2, r_14_3, r_14_4, r_14_5, r_15_2, r_21_0, r_23_0, r_50_1, r_50_5, r_50_6, r_50_7, r_50_8, r_50_10, r_50_11, r_50_12, r_50_13, r_50_14, r_50_17, r_50_18, r_50_21, r_50_23, r_rp, r_rs, h_Fs, h_FF, h_FI, h_FL, h_Is, h_II, h_IF, h_IL, h_Ls, h_LL, h_LF, h_LI, nI_ltT, nI_ltF, nI_leT, nI_leF, nI_eqT, nI_eqF, ng_ltT, ng_ltF, ng_leT, ng_leF, ng_eqF, ng_eqG, n_ltT, n_leT, n_ltF, n_leF, n_eqF, n_eqG, ng_inj, zix_nI, zinR_nI, nI_add, ↓reduceIte, true_or, or_true, or_self, not_true, not_false, Nat.reduceAdd, l_s0g, l_s1g, l_t0g, List.tail_cons, List.tail_nil, nx_x]
  refine j_bitCountI hx ?_
  by_cases h : min e S.1.2.1 ≤ zpc (c ^^^ d)
  · rw [decide_eq_true h] at hQ
    simp (disch := first | assumption | omega) only [l_g0, l_gs, l_s0, l_s1, l_ss, l_sn0, l_sns, l_ki, l_kr, l_kl, l_ka, l_en, l_ei, l_er, t_I, t_R, t_W0, t_Wi, t_Wr, t_v0, t_v2, t_v3, i_p1, i_m1, t_k0, t_k1, k_some, k_none, true_and, and_true, ite_true, ite_false, Fin.isValue, l_t0, l_t1, l_ts, l_tn0, l_tns, l_el, t_L, t_Wl, t_v1, t_l0, t_l1, List.tail_cons, List.tail_nil, e_aload_n_0, e_getfield, e_goto0, e_icmp_lt0, e_iconst, e_iload_n_1, e_iload_n_2, e_iload_n_3, e_invs1_0, e_ireturn, e_ixor, e_min, e_nop0, b17_0, b17_1, b17_2, q17_0, q17_1, q17_2, zE17, o_0, o_1, o_2, a_2, w_2, o_3, a_3, w_3, o_4, o_5, a_5, w_5, o_6, o_7, a_7, w_7, o_8, o_9, a_9, w_9, o_10, o_11, a_11, w_11, o_12, o_13, a_13, w_13, o_14, o_15, o_16, a_16, w_16, o_17, a_17, w_17, o_18, a_18, w_18, o_19, a_19, w_19, o_20, a_20, w_20, o_21, o_22, a_22, w_22, o_23, o_24, a_24, w_24, o_25, a_25, w_25, o_50, o_51, a_51, w_51, o_52, a_52, w_52, o_53, a_53, w_53, o_54, a_54, w_54, o_55, a_55, w_55, o_56, a_56, w_56, o_57, a_57, w_57, o_58, a_58, w_58, o_59, a_59, w_59, o_60, a_60, w_60, o_61, a_61, w_61, o_62, a_62, w_62, o_63, a_63, w_63, o_64, a_64, w_64, o_rp, o_rs, a_rs, w_rs, r_0_0, r_0_1, r_0_2, r_0_3, r_0_4, r_0_5, r_0_6, r_0_7, r_0_12, r_1_3, r_4_0, r_4_1, r_6_0, r_8_0, r_10_2, r_12_2, r_14_0, r_14_1, r_14_2, r_14_3, r_14_4, r_14_5, r_15_2, r_21_0, r_23_0, r_50_1, r_50_5, r_50_6, r_50_7, r_50_8, r_50_10, r_50_11, r_50_12, r_50_13, r_50_14, r_50_17, r_50_18, r_50_21, r_50_23, r_rp, r_rs, h_Fs, h_FF, h_FI, h_FL, h_Is, h_II, h_IF, h_IL, h_Ls, h_LL, h_LF, h_LI, nI_ltT, nI_ltF, nI_leT, nI_leF, nI_eqT, nI_eqF, ng_ltT, ng_ltF, ng_leT, ng_leF, ng_eqF, ng_eqG, n_ltT, n_leT, n_ltF, n_leF, n_eqF, n_eqG, ng_inj, zix_nI, zinR_nI, nI_add, ↓reduceIte, true_or, or_true, or_self, not_true, not_false, Nat.reduceAdd, l_s0g, l_s1g, l_t0g, List.tail_cons, List.tail_nil, g, zmin_n]
    exact hQ
  · rw [decide_eq_false h] at hQ
    simp (disch := first | assumption | omega) only [l_g0, l_gs, l_s0, l_s1, l_ss, l_sn0, l_sns, l_ki, l_kr, l_kl, l_ka, l_en, l_ei, l_er, t_I, t_R, t_W0, t_Wi, t_Wr, t_v0, t_v2, t_v3, i_p1, i_m1, t_k0, t_k1, k_some, k_none, true_and, and_true, ite_true, ite_false, Fin.isValue, l_t0, l_t1, l_ts, l_tn0, l_tns, l_el, t_L, t_Wl, t_v1, t_l0, t_l1, List.tail_cons, List.tail_nil, e_aload_n_0, e_getfield, e_goto0, e_icmp_lt0, e_iconst, e_iload_n_1, e_iload_n_2, e_iload_n_3, e_invs1_0, e_ireturn, e_ixor, e_min, e_nop0, b17_0, b17_1, b17_2, q17_0, q17_1, q17_2, zE17, o_0, o_1, o_2, a_2, w_2, o_3, a_3, w_3, o_4, o_5, a_5, w_5, o_6, o_7, a_7, w_7, o_8, o_9, a_9, w_9, o_10, o_11, a_11, w_11, o_12, o_13, a_13, w_13, o_14, o_15, o_16, a_16, w_16, o_17, a_17, w_17, o_18, a_18, w_18, o_19, a_19, w_19, o_20, a_20, w_20, o_21, o_22, a_22, w_22, o_23, o_24, a_24, w_24, o_25, a_25, w_25, o_50, o_51, a_51, w_51, o_52, a_52, w_52, o_53, a_53, w_53, o_54, a_54, w_54, o_55, a_55, w_55, o_56, a_56, w_56, o_57, a_57, w_57, o_58, a_58, w_58, o_59, a_59, w_59, o_60, a_60, w_60, o_61, a_61, w_61, o_62, a_62, w_62, o_63, a_63, w_63, o_64, a_64, w_64, o_rp, o_rs, a_rs, w_rs, r_0_0, r_0_1, r_0_2, r_0_3, r_0_4, r_0_5, r_0_6, r_0_7, r_0_12, r_1_3, r_4_0, r_4_1, r_6_0, r_8_0, r_10_2, r_12_2, r_14_0, r_14_1, r_14_2, r_14_3, r_14_4, r_14_5, r_15_2, r_21_0, r_23_0, r_50_1, r_50_5, r_50_6, r_50_7, r_50_8, r_50_10, r_50_11, r_50_12, r_50_13, r_50_14, r_50_17, r_50_18, r_50_21, r_50_23, r_rp, r_rs, h_Fs, h_FF, h_FI, h_FL, h_Is, h_II, h_IF, h_IL, h_Ls, h_LL, h_LF, h_LI, nI_ltT, nI_ltF, nI_leT, nI_leF, nI_eqT, nI_eqF, ng_ltT, ng_ltF, ng_leT, ng_leF, ng_eqF, ng_eqG, n_ltT, n_leT, n_ltF, n_leF, n_eqF, n_eqG, ng_inj, zix_nI, zinR_nI, nI_add, ↓reduceIte, true_or, or_true, or_self, not_true, not_false, Nat.reduceAdd, l_s0g, l_s1g, l_t0g, List.tail_cons, List.tail_nil, g, zmin_n]
    exact hQ
theorem m_bits {X : zX} {H : zHp} {c : Nat} {Q : Option Value → zHp → Prop} (hc : c < 64) (hQ : Q (some (.int (nI (zpc c)))) H) : zCall X 131 65 [.int (nI c)] H Q := by
  refine zgo_call 20 (by decide) (by decide +kernel) True.intro ?_
  simp (disch := first | assumption | omega) only [l_g0, l_gs, l_s0, l_s1, l_ss, l_sn0, l_sns, l_ki, l_kr, l_kl, l_ka, l_en, l_ei, l_er, t_I, t_R, t_W0, t_Wi, t_Wr, t_v0, t_v2, t_v3, i_p1, i_m1, t_k0, t_k1, k_some, k_none, true_and, and_true, ite_true, ite_false, Fin.isValue, l_t0, l_t1, l_ts, l_tn0, l_tns, l_el, t_L, t_Wl, t_v1, t_l0, t_l1, List.tail_cons, List.tail_nil, e_bipush, e_goto1, e_iadd, e_iand, e_icmp_ge0, e_iconst, e_iinc, e_iload_n_0, e_iload_n_1, e_iload_n_2, e_ireturn, e_ishr, e_istore_n_1, e_istore_n_2, e_nop1, b131_0, b131_1, b131_2, q131_0, q131_1, q131_2, zE131, o_0, o_1, o_2, a_2, w_2, o_3, a_3, w_3, o_4, o_5, a_5, w_5, o_6, o_7, a_7, w_7, o_8, o_9, a_9, w_9, o_10, o_11, a_11, w_11, o_12, o_13, a_13, w_13, o_14, o_15, o_16, a_16, w_16, o_17, a_17, w_17, o_18, a_18, w_18, o_19, a_19, w_19, o_20, a_20, w_20, o_21, o_22, a_22, w_22, o_23, o_24, a_24, w_24, o_25, a_25, w_25, o_50, o_51, a_51, w_51, o_52, a_52, w_52, o_53, a_53, w_53, o_54, a_54, w_54, o_55, a_55, w_55, o_56, a_56, w_56, o_57, a_57, w_57, o_58, a_58, w_58, o_59, a_59, w_59, o_60, a_60, w_60, o_61, a_61, w_61, o_62, a_62, w_62, o_63, a_63, w_63, o_64, a_64, w_64, o_rp, o_rs, a_rs, w_rs, r_0_0, r_0_1, r_0_2, r_0_3, r_0_4, r_0_5, r_0_6, r_0_7, r_0_12, r_1_3, r_4_0, r_4_1, r_6_0, r_8_0, r_10_2, r_12_2, r_14_0, r_14_1, r_14_2, r_14_3, r_14_4, r_14_5, r_15_2, r_21_0, r_23_0, r_50_1, r_50_5, r_50_6, r_50_7, r_50_8, r_50_10, r_50_11, r_50_12, r_50_13, r_50_14, r_50_17, r_50_18, r_50_21, r_50_23, r_rp, r_rs, h_Fs, h_FF, h_FI, h_FL, h_Is, h_II, h_IF, h_IL, h_Ls, h_LL, h_LF, h_LI, nI_ltT, nI_ltF, nI_leT, nI_leF, nI_eqT, nI_eqF, ng_ltT, ng_ltF, ng_leT, ng_leF, ng_eqF, ng_eqG, n_ltT, n_leT, n_ltF, n_leF, n_eqF, n_eqG, ng_inj, zix_nI, zinR_nI, nI_add, ↓reduceIte, true_or, or_true, or_self, not_true, not_false, Nat.reduceAdd, l_s0g, l_s1g, l_t0g, List.tail_cons, List.tail_nil]
  refine zfor (R := fun i H' => H' = H) (fun i H' => zAt X 131 65 65 1 [.int (nI c), .int (nI (zpop c i)), .int (nI i)] [] H' Q) 6 ?_ ?_ 0 H (by decide) rfl
  · intro H' e
    subst e
    refine zgo_at 20 ?_
    simp (disch := first | assumption | omega) only [l_g0, l_gs, l_s0, l_s1, l_ss, l_sn0, l_sns, l_ki, l_kr, l_kl, l_ka, l_en, l_ei, l_er, t_I, t_R, t_W0, t_Wi, t_Wr, t_v0, t_v2, t_v3, i_p1, i_m1, t_k0, t_k1, k_some, k_none, true_and, and_true, ite_true, ite_false, Fin.isValue, l_t0, l_t1, l_ts, l_tn0, l_tns, l_el, t_L, t_Wl, t_v1, t_l0, t_l1, List.tail_cons, List.tail_nil, e_bipush, e_goto1, e_iadd, e_iand, e_icmp_ge0, e_iconst, e_iinc, e_iload_n_0, e_iload_n_1, e_iload_n_2, e_ireturn, e_ishr, e_istore_n_1, e_istore_n_2, e_nop1, b131_0, b131_1, b131_2, q131_0, q131_1, q131_2, zE131, o_0, o_1, o_2, a_2, w_2, o_3, a_3, w_3, o_4, o_5, a_5, w_5, o_6, o_7, a_7, w_7, o_8, o_9, a_9, w_9, o_10, o_11, a_11, w_11, o_12, o_13, a_13, w_13, o_14, o_15, o_16, a_16, w_16, o_17, a_17, w_17, o_18, a_18, w_18, o_19, a_19, w_19, o_20, a_20, w_20, o_21, o_22, a_22, w_22, o_23, o_24, a_24, w_24, o_25, a_25, w_25, o_50, o_51, a_51, w_51, o_52, a_52, w_52, o_53, a_53, w_53, o_54, a_54, w_54, o_55, a_55, w_55, o_56, a_56, w_56, o_57, a_57, w_57, o_58, a_58, w_58, o_59, a_59, w_59, o_60, a_60, w_60, o_61, a_61, w_61, o_62, a_62, w_62, o_63, a_63, w_63, o_64, a_64, w_64, o_rp, o_rs, a_rs, w_rs, r_0_0, r_0_1, r_0_2, r_0_3, r_0_4, r_0_5, r_0_6, r_0_7, r_0_12, r_1_3, r_4_0, r_4_1, r_6_0, r_8_0, r_10_2, r_12_2, r_14_0, r_14_1, r_14_2, r_14_3, r_14_4, r_14_5, r_15_2, r_21_0, r_23_0, r_50_1, r_50_5, r_50_6, r_50_7, r_50_8, r_50_10, r_50_11, r_50_12, r_50_13, r_50_14, r_50_17, r_50_18, r_50_21, r_50_23, r_rp, r_rs, h_Fs, h_FF, h_FI, h_FL, h_Is, h_II, h_IF, h_IL, h_Ls, h_LL, h_LF, h_LI, nI_ltT, nI_ltF, nI_leT, nI_leF, nI_eqT, nI_eqF, ng_ltT, ng_ltF, ng_leT, ng_leF, ng_eqF, ng_eqG, n_ltT, n_leT, n_ltF, n_leF, n_eqF, n_eqG, ng_inj, zix_nI, zinR_nI, nI_add, ↓reduceIte, true_or, or_true, or_self, not_true, not_false, Nat.reduceAdd, l_s0g, l_s1g, l_t0g, List.tail_cons, List.tail_nil]
    exact hQ
  · intro i H' hi e ih
    subst e
    have ih := ih H' rfl
    have e1 : zpop c (i + 1) = zpop c i + c / 2 ^ i % 2 := by
      show zpop c i + (c >>> i) % 2 = _
      rw [Nat.shiftRight_eq_div_pow]
    rw [e1] at ih
    refine zgo_at 20 ?_
    simp (disch := first | assumption | omega) only [l_g0, l_gs, l_s0, l_s1, l_ss, l_sn0, l_sns, l_ki, l_kr, l_kl, l_ka, l_en, l_ei, l_er, t_I, t_R, t_W0, t_Wi, t_Wr, t_v0, t_v2, t_v3, i_p1, i_m1, t_k0, t_k1, k_some, k_none, true_and, and_true, ite_true, ite_false, Fin.isValue, l_t0, l_t1, l_ts, l_tn0, l_tns, l_el, t_L, t_Wl, t_v1, t_l0, t_l1, List.tail_cons, List.tail_nil, e_bipush, e_goto1, e_iadd, e_iand, e_icmp_ge0, e_iconst, e_iinc, e_iload_n_0, e_iload_n_1, e_iload_n_2, e_ireturn, e_ishr, e_istore_n_1, e_istore_n_2, e_nop1, b131_0, b131_1, b131_2, q131_0, q131_1, q131_2, zE131, o_0, o_1, o_2, a_2, w_2, o_3, a_3, w_3, o_4, o_5, a_5, w_5, o_6, o_7, a_7, w_7, o_8, o_9, a_9, w_9, o_10, o_11, a_11, w_11, o_12, o_13, a_13, w_13, o_14, o_15, o_16, a_16, w_16, o_17, a_17, w_17, o_18, a_18, w_18, o_19, a_19, w_19, o_20, a_20, w_20, o_21, o_22, a_22, w_22, o_23, o_24, a_24, w_24, o_25, a_25, w_25, o_50, o_51, a_51, w_51, o_52, a_52, w_52, o_53, a_53, w_53, o_54, a_54, w_54, o_55, a_55, w_55, o_56, a_56, w_56, o_57, a_57, w_57, o_58, a_58, w_58, o_59, a_59, w_59, o_60, a_60, w_60, o_61, a_61, w_61, o_62, a_62, w_62, o_63, a_63, w_63, o_64, a_64, w_64, o_rp, o_rs, a_rs, w_rs, r_0_0, r_0_1, r_0_2, r_0_3, r_0_4, r_0_5, r_0_6, r_0_7, r_0_12, r_1_3, r_4_0, r_4_1, r_6_0, r_8_0, r_10_2, r_12_2, r_14_0, r_14_1, r_14_2, r_14_3, r_14_4, r_14_5, r_15_2, r_21_0, r_23_0, r_50_1, r_50_5, r_50_6, r_50_7, r_50_8, r_50_10, r_50_11, r_50_12, r_50_13, r_50_14, r_50_17, r_50_18, r_50_21, r_50_23, r_rp, r_rs, h_Fs, h_FF, h_FI, h_FL, h_Is, h_II, h_IF, h_IL, h_Ls, h_LL, h_LF, h_LI, nI_ltT, nI_ltF, nI_leT, nI_leF, nI_eqT, nI_eqF, ng_ltT, ng_ltF, ng_leT, ng_leF, ng_eqF, ng_eqG, n_ltT, n_leT, n_ltF, n_leF, n_eqF, n_eqG, ng_inj, zix_nI, zinR_nI, nI_add, ↓reduceIte, true_or, or_true, or_self, not_true, not_false, Nat.reduceAdd, l_s0g, l_s1g, l_t0g, List.tail_cons, List.tail_nil, nx_r]
    exact ih
theorem m_lesser {X : zX} {H : zHp} {a b : Nat} {Q : Option Value → zHp → Prop} (ha : a < 1000) (hb : b < 1000) (hQ : Q (some (.int (nI (min a b)))) H) : zCall X 133 65 [.int (nI a), .int (nI b)] H Q := by
  refine zgo_call 20 (by decide) (by decide +kernel) True.intro ?_
  by_cases h : a < b
  · rw [Nat.min_eq_left (by omega)] at hQ
    simp (disch := first | assumption | omega) only [l_g0, l_gs, l_s0, l_s1, l_ss, l_sn0, l_sns, l_ki, l_kr, l_kl, l_ka, l_en, l_ei, l_er, t_I, t_R, t_W0, t_Wi, t_Wr, t_v0, t_v2, t_v3, i_p1, i_m1, t_k0, t_k1, k_some, k_none, true_and, and_true, ite_true, ite_false, Fin.isValue, l_t0, l_t1, l_ts, l_tn0, l_tns, l_el, t_L, t_Wl, t_v1, t_l0, t_l1, List.tail_cons, List.tail_nil, e_goto0, e_icmp_ge0, e_iload_n_0, e_iload_n_1, e_ireturn, e_nop0, b133_0, b133_1, b133_2, q133_0, q133_1, q133_2, zE133, o_0, o_1, o_2, a_2, w_2, o_3, a_3, w_3, o_4, o_5, a_5, w_5, o_6, o_7, a_7, w_7, o_8, o_9, a_9, w_9, o_10, o_11, a_11, w_11, o_12, o_13, a_13, w_13, o_14, o_15, o_16, a_16, w_16, o_17, a_17, w_17, o_18, a_18, w_18, o_19, a_19, w_19, o_20, a_20, w_20, o_21, o_22, a_22, w_22, o_23, o_24, a_24, w_24, o_25, a_25, w_25, o_50, o_51, a_51, w_51, o_52, a_52, w_52, o_53, a_53, w_53, o_54, a_54, w_54, o_55, a_55, w_55, o_56, a_56, w_56, o_57, a_57, w_57, o_58, a_58, w_58, o_59, a_59, w_59, o_60, a_60, w_60, o_61, a_61, w_61, o_62, a_62, w_62, o_63, a_63, w_63, o_64, a_64, w_64, o_rp, o_rs, a_rs, w_rs, r_0_0, r_0_1, r_0_2, r_0_3, r_0_4, r_0_5, r_0_6, r_0_7, r_0_12, r_1_3, r_4_0, r_4_1, r_6_0, r_8_0, r_10_2, r_12_2, r_14_0, r_14_1, r_14_2, r_14_3, r_14_4, r_14_5, r_15_2, r_21_0, r_23_0, r_50_1, r_50_5, r_50_6, r_50_7, r_50_8, r_50_10, r_50_11, r_50_12, r_50_13, r_50_14, r_50_17, r_50_18, r_50_21, r_50_23, r_rp, r_rs, h_Fs, h_FF, h_FI, h_FL, h_Is, h_II, h_IF, h_IL, h_Ls, h_LL, h_LF, h_LI, nI_ltT, nI_ltF, nI_leT, nI_leF, nI_eqT, nI_eqF, ng_ltT, ng_ltF, ng_leT, ng_leF, ng_eqF, ng_eqG, n_ltT, n_leT, n_ltF, n_leF, n_eqF, n_eqG, ng_inj, zix_nI, zinR_nI, nI_add, ↓reduceIte, true_or, or_true, or_self, not_true, not_false, Nat.reduceAdd, l_s0g, l_s1g, l_t0g, List.tail_cons, List.tail_nil]
    exact hQ
  · rw [Nat.min_eq_right (by omega)] at hQ
    simp (disch := first | assumption | omega) only [l_g0, l_gs, l_s0, l_s1, l_ss, l_sn0, l_sns, l_ki, l_kr, l_kl, l_ka, l_en, l_ei, l_er, t_I, t_R, t_W0, t_Wi, t_Wr, t_v0, t_v2, t_v3, i_p1, i_m1, t_k0, t_k1, k_some, k_none, true_and, and_true, ite_true, ite_false, Fin.isValue, l_t0, l_t1, l_ts, l_tn0, l_tns, l_el, t_L, t_Wl, t_v1, t_l0, t_l1, List.tail_cons, List.tail_nil, e_goto0, e_icmp_ge0, e_iload_n_0, e_iload_n_1, e_ireturn, e_nop0, b133_0, b133_1, b133_2, q133_0, q133_1, q133_2, zE133, o_0, o_1, o_2, a_2, w_2, o_3, a_3, w_3, o_4, o_5, a_5, w_5, o_6, o_7, a_7, w_7, o_8, o_9, a_9, w_9, o_10, o_11, a_11, w_11, o_12, o_13, a_13, w_13, o_14, o_15, o_16, a_16, w_16, o_17, a_17, w_17, o_18, a_18, w_18, o_19, a_19, w_19, o_20, a_20, w_20, o_21, o_22, a_22, w_22, o_23, o_24, a_24, w_24, o_25, a_25, w_25, o_50, o_51, a_51, w_51, o_52, a_52, w_52, o_53, a_53, w_53, o_54, a_54, w_54, o_55, a_55, w_55, o_56, a_56, w_56, o_57, a_57, w_57, o_58, a_58, w_58, o_59, a_59, w_59, o_60, a_60, w_60, o_61, a_61, w_61, o_62, a_62, w_62, o_63, a_63, w_63, o_64, a_64, w_64, o_rp, o_rs, a_rs, w_rs, r_0_0, r_0_1, r_0_2, r_0_3, r_0_4, r_0_5, r_0_6, r_0_7, r_0_12, r_1_3, r_4_0, r_4_1, r_6_0, r_8_0, r_10_2, r_12_2, r_14_0, r_14_1, r_14_2, r_14_3, r_14_4, r_14_5, r_15_2, r_21_0, r_23_0, r_50_1, r_50_5, r_50_6, r_50_7, r_50_8, r_50_10, r_50_11, r_50_12, r_50_13, r_50_14, r_50_17, r_50_18, r_50_21, r_50_23, r_rp, r_rs, h_Fs, h_FF, h_FI, h_FL, h_Is, h_II, h_IF, h_IL, h_Ls, h_LL, h_LF, h_LI, nI_ltT, nI_ltF, nI_leT, nI_leF, nI_eqT, nI_eqF, ng_ltT, ng_ltF, ng_leT, ng_leF, ng_eqF, ng_eqG, n_ltT, n_leT, n_ltF, n_leF, n_eqF, n_eqG, ng_inj, zix_nI, zinR_nI, nI_add, ↓reduceIte, true_or, or_true, or_self, not_true, not_false, Nat.reduceAdd, l_s0g, l_s1g, l_t0g, List.tail_cons, List.tail_nil]
    exact hQ
