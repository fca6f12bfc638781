/-! rows that are met: their least forms are such rows -/
def zvd (D k : Nat) (ring : Bool) (w : List Nat) : Prop := zrow w ∧ (∀ j, j < w.length → w.getD j 0 < D) ∧ (ring = true → zrg D k (lN 0) w = true) ∧ (ring = false → ∀ i j, i < j → j ≤ w.length → min (j - i) k ≤ zpc (zcor w i ^^^ zcor w j))
theorem zq_cy {s : Nat → Nat} {L f i n : Nat} {b : Bool} (h0 : 0 < n) (hn : i + n ≤ L) : zE (zsq s L f b) i n = zE (zcy s L) (if b = true then f + 2 * L + 1 - (i + n) else f + i) n := by
  cases b
  · rw [if_neg (by decide)]
    exact zE_cong (fun t ht => by
      unfold zsq zplc zcy
      rw [if_neg (by decide), Nat.add_assoc])
  · rw [if_pos rfl]
    exact zE_rev (fun t ht => by
      unfold zsq zplc zcy
      have e : f + 2 * L + 1 - (i + n) + (n - 1 - t) = f + 2 * L - (i + t) := by omega
      rw [if_pos rfl, e])
theorem zLF_dst {ring : Bool} {w : List Nat} (hw : zrow w) {i n : Nat} (hn : i + n ≤ w.length) : zpc (zcor (zLF ring w) i ^^^ zcor (zLF ring w) (i + n)) = zpc (zE (zsq (zsw' w) w.length (zLfb ring w).1 (zLfb ring w).2) i n) := by
  rw [zcor_d]
  refine zE_ren (fun t ht => zsw_lt6 (zLF_row hw) _) (fun t ht => zsw_lt6 hw _) (fun t u ht hu => ?_)
  have e : ∀ t, t < n → zsw' (zLF ring w) (i + t) = zfrm (zsq (zsw' w) w.length (zLfb ring w).1 (zLfb ring w).2) (i + t) := fun t ht => zLF_at (by omega)
  rw [e t ht, e u hu]
  exact zfrm_same
theorem zpc_z : zpc 0 = 0 := by decide
theorem zLF_vd {D k : Nat} {ring : Bool} {w : List Nat} (hk : 1 ≤ k) (h : zvd D k ring w) : zvd D k ring (zLF ring w) := by
  obtain ⟨hw, hD, hr, hs⟩ := h
  refine ⟨zLF_row hw, fun j hj => zLF_D hD j (by rw [zLF_len] at hj; exact hj), fun e => ?_, fun e i j hij hj => ?_⟩
  · have hr := hr e
    obtain ⟨h1, h2, h3, h4⟩ := zrg_ok hr
    have hk0 : 0 < w.length := by
      have : 0 < zsr k := by
        unfold zsr
        split <;> omega
      omega
    have hz : zcor (zLF ring w) (zLF ring w).length = 0 := by
      refine zpc_0 _ (zcor_lt (zLF_row hw) _) ?_
      have hd := zLF_dst (ring := ring) hw (i := 0) (n := w.length) (by omega)
      have e0 : zcor (zLF ring w) 0 = 0 := rfl
      rw [e0, Nat.zero_xor, Nat.zero_add] at hd
      rw [zLF_len, hd, zq_cy hk0 (by omega), zcy_all (by rw [← zcor_E0]; exact h2)]
      exact zpc_z
    unfold zrg
    rw [hz, zLF_len, decide_eq_true h1, decide_eq_true rfl, Bool.true_and, Bool.true_and, Bool.and_eq_true, zga_iff, zga_iff]
    refine ⟨fun i hi => ?_, fun j hj => zga_iff.mpr (fun i hi => ?_)⟩
    · unfold zri
      rw [zbit_0, decide_eq_true (zLF_D hD i hi)]
      rfl
    · unfold zrf
      rw [zLF_len]
      refine decide_eq_true ?_
      have hd := zLF_dst (ring := ring) hw (i := i) (n := j - i) (by omega)
      have e2 : i + (j - i) = j := by omega
      rw [e2, zq_cy (by omega) (by omega)] at hd
      rw [hd]
      exact zrg_cy hw hr (by omega) (by omega) _
  · rw [zLF_len] at hj
    have hs := hs e
    have hd := zLF_dst (ring := ring) hw (i := i) (n := j - i) (by omega)
    have e2 : i + (j - i) = j := by omega
    rw [e2, zq_cy (by omega) (by omega)] at hd
    rw [hd]
    have inn : ∀ a, a + (j - i) ≤ w.length → min (j - i) k ≤ zpc (zE (zcy (zsw' w) w.length) a (j - i)) := by
      intro a ha
      have e3 : zE (zcy (zsw' w) w.length) a (j - i) = zE (zsw' w) a (j - i) := zE_cong (fun t ht => zcy_in (by omega))
      rw [e3, ← zcor_d]
      have h5 := hs a (a + (j - i)) (by omega) ha
      rw [Nat.add_sub_cancel_left] at h5
      exact h5
    have hok := (zLfb_ok ring w (by omega)).1.2 e
    rcases hok with ⟨hb, hf⟩ | ⟨hb, hf⟩
    · rw [hb, hf, if_neg (by decide)]
      exact inn _ (by omega)
    · rw [hb, hf, if_pos rfl]
      have e4 : w.length - 1 + 2 * w.length + 1 - (i + (j - i)) = w.length - j + w.length + w.length := by omega
      rw [e4, zcy_E_per, zcy_E_per]
      exact inn _ (by omega)
/-! such rows are met -/
theorem zpc_x1 : ∀ a, a < 64 → ∀ w, w < 6 → zpc (a ^^^ 2 ^ w) ≤ zpc a + 1 := by decide +kernel
theorem zE_pc {q : Nat → Nat} (h : ∀ t, q t < 6) (i : Nat) : ∀ n, zpc (zE q i n) ≤ n
  | 0 => by show zpc 0 ≤ 0; decide
  | n + 1 => by
    have h1 := zE_pc h i n
    have h2 := zpc_x1 _ (zE_lt h i n) _ (h (i + n))
    show zpc (zE q i n ^^^ 2 ^ q (i + n)) ≤ n + 1
    omega
theorem z_take_s {f : List Nat} {i : Nat} (h : i < f.length) : f.take i ++ [f.getD i 0] = f.take (i + 1) := by
  rw [List.take_add_one, List.getD_eq_getElem?_getD, List.getElem?_eq_getElem h]
  rfl
theorem z_take_len {f : List Nat} {i : Nat} (h : i ≤ f.length) : (f.take i).length = i := by
  rw [List.length_take]
  omega
/-- a ring's row is open up to its last step -/
theorem zrg_op {D k : Nat} {f : List Nat} (hk : 1 ≤ k) (hw : zrow f) (hr : zrg D k (lN 0) f = true) {j : Nat} (h0 : 0 < j) (hj : j < f.length) : zop k (lN 0) f j = true ∧ zcor f j ≠ 0 := by
  obtain ⟨h1, h2, h3, h4⟩ := zrg_ok hr
  have hpc : zpc (zcor f j) ≤ f.length - j := by
    have e := zcor_d f j (f.length - j)
    have e2 : j + (f.length - j) = f.length := by omega
    rw [e2, h2, Nat.xor_zero] at e
    rw [e]
    exact zE_pc (zsw_lt6 hw) _ _
  have hd := fun i hi => h4 i j hi hj
  refine ⟨?_, fun e => ?_⟩
  · unfold zop
    rw [zbit_0, Bool.not_false, Bool.true_and, zga_iff]
    intro i hi
    have hd := hd i hi
    unfold zopp
    rw [Bool.and_eq_true, Bool.or_eq_true, decide_eq_true_eq, decide_eq_true_eq, decide_eq_true_eq]
    omega
  · have hd := hd 0 h0
    have e0 : zcor f 0 = 0 := rfl
    rw [e0, e, Nat.zero_xor, zpc_z] at hd
    omega
def zpv (D m : Nat) (hw : List Nat → Nat → Nat) (f : List Nat) : Prop := f.length = m ∧ ∀ i, i < f.length → f.getD i 0 < D ∧ hw (f.take i) (f.getD i 0) ≠ 0 ∧ (i + 1 < f.length → hw (f.take i) (f.getD i 0) = 1)
theorem zvd_pv {D k m : Nat} {ring : Bool} {f : List Nat} (hk : 1 ≤ k) (h : zvd D k ring f) (hc : zcan f) (hm : f.length = m) : zpv D m (zhw D k (lN 0) ring) f ∧ (ring = true → ∀ i, i + 1 = f.length → zhw D k (lN 0) ring (f.take i) (f.getD i 0) = 2) := by
  obtain ⟨hw, hD, hr, hs⟩ := h
  have hl := hw.1
  have base : ∀ i, i < f.length → zhw D k (lN 0) ring (f.take i) (f.getD i 0) = (if ring = true then (if zrg D k (lN 0) (f.take (i + 1)) = true then 2 else if zop k (lN 0) (f.take (i + 1)) (i + 1) = true then 1 else 0) else if (zcau k (lN 0) (f.take (i + 1)) (i + 1)).isNone = true then 1 else 0) := by
    intro i hi
    have e1 := z_take_len (f := f) (i := i) (by omega)
    have hmw : ¬ (lN 0 = lN 0 ∧ zmwn (f.take i) (f.take i).length < f.getD i 0) := by
      rintro ⟨-, q⟩
      have h2 := hc i hi
      rw [e1] at q
      have e2 : zmwn f i = zmwn (f.take i) i := by
        have := zmwn_app (w := f.take i) (v := f.drop i) (n := i) (by omega)
        rw [List.take_append_drop] at this
        exact this
      omega
    unfold zhw
    rw [if_neg (by omega), if_neg hmw, z_take_s hi, e1]
  have split : ∀ i, i < f.length → f.take (i + 1) ++ f.drop (i + 1) = f ∧ (f.take (i + 1)).length = i + 1 := fun i hi => ⟨List.take_append_drop _ _, z_take_len (by omega)⟩
  have two : ring = true → ∀ i, i + 1 = f.length → zhw D k (lN 0) ring (f.take i) (f.getD i 0) = 2 := by
    intro e i hi
    rw [base i (by omega), if_pos e, hi, List.take_length, if_pos (hr e)]
  have one : ∀ i, i + 1 < f.length → zhw D k (lN 0) ring (f.take i) (f.getD i 0) = 1 := by
    intro i hi
    obtain ⟨e1, e2⟩ := split i (by omega)
    rw [base i (by omega)]
    cases ring
    · rw [if_neg (by decide)]
      have h5 : zcau k (lN 0) (f.take (i + 1)) (i + 1) = none := by
        have e3 := zcau_app (k := k) (B := lN 0) (w := f.take (i + 1)) (v := f.drop (i + 1)) (j := i + 1) (by omega)
        rw [e1] at e3
        rw [← e3]
        exact zcau_none.mpr ⟨zbit_0 _, fun a ha => hs rfl a (i + 1) ha (by omega)⟩
      rw [h5]
      rfl
    · rw [if_pos rfl]
      obtain ⟨h5, h6⟩ := zrg_op hk hw (hr rfl) (j := i + 1) (by omega) hi
      have e3 := zop_app (k := k) (B := lN 0) (w := f.take (i + 1)) (v := f.drop (i + 1)) (j := i + 1) (by omega)
      have e4 := zcor_app (w := f.take (i + 1)) (v := f.drop (i + 1)) (i := i + 1) (by omega)
      rw [e1] at e3 e4
      rw [if_neg (fun q => ?_), ← e3, if_pos h5]
      have := (zrg_ok q).2.1
      rw [e2, ← e4] at this
      exact h6 this
  refine ⟨⟨hm, fun i hi => ⟨hD i hi, ?_, one i⟩⟩, two⟩
  by_cases h2 : i + 1 < f.length
  · rw [one i h2]
    decide
  · cases hring : ring
    · obtain ⟨e1, e2⟩ := split i hi
      have h6 := base i hi
      rw [hring] at h6
      rw [h6, if_neg (by decide)]
      have h5 : zcau k (lN 0) (f.take (i + 1)) (i + 1) = none := by
        have e3 := zcau_app (k := k) (B := lN 0) (w := f.take (i + 1)) (v := f.drop (i + 1)) (j := i + 1) (by omega)
        rw [e1] at e3
        rw [← e3]
        exact zcau_none.mpr ⟨zbit_0 _, fun a ha => hs hring a (i + 1) ha (by omega)⟩
      rw [h5]
      decide
    · have h6 := two hring i (by omega)
      rw [hring] at h6
      rw [h6]
      decide
/-- what is met is such a row -/
theorem zmet_vd {D k x : Nat} {ring : Bool} {v : List Nat} (hD : D ≤ 6) (hg : zgod D k (lN 0) ring v) (hx : x < D) (hne : zhw D k (lN 0) ring v x ≠ 0) (hmet : zmet ring (v ++ [x], zhw D k (lN 0) ring v x) = true) : zvd D k ring (v ++ [x]) ∧ zcan (v ++ [x]) := by
  have hvr := zgod_row hD hg
  have el : (v ++ [x]).length = v.length + 1 := by simp
  have h64 : v.length ≠ 64 := fun q => hne (by unfold zhw; rw [if_pos q])
  have hmw : ¬ (lN 0 = lN 0 ∧ zmwn v v.length < x) := fun q => hne (by unfold zhw; rw [if_neg h64, if_pos q])
  have eh : zhw D k (lN 0) ring v x = (if ring = true then (if zrg D k (lN 0) (v ++ [x]) = true then 2 else if zop k (lN 0) (v ++ [x]) (v.length + 1) = true then 1 else 0) else if (zcau k (lN 0) (v ++ [x]) (v.length + 1)).isNone = true then 1 else 0) := by
    unfold zhw
    rw [if_neg h64, if_neg hmw]
  have hl := hvr.1
  refine ⟨⟨zrow_snoc hvr (by omega) (by omega), fun j hj => ?_, fun e => ?_, fun e i j hij hj => ?_⟩, fun j hj => ?_⟩
  · by_cases h : j < v.length
    · rw [z_app_lt h]
      exact (hg.2.2 j h).1
    · have e : j = v.length := by omega
      subst e
      rw [z_app_last]
      exact hx
  · have h2 : zhw D k (lN 0) ring v x = 2 := by
      unfold zmet at hmet
      rw [e, Bool.not_true, Bool.false_or, decide_eq_true_eq] at hmet
      rw [e]
      exact hmet
    rw [eh, if_pos e] at h2
    split at h2
    · assumption
    · split at h2 <;> cases h2
  · rw [el] at hj
    rw [eh, if_neg (by rw [e]; decide)] at hne
    by_cases h : j ≤ v.length
    · have h3 := (hg.2.2 (j - 1) (by omega)).2.2.2 e
      rw [Nat.sub_add_cancel (by omega)] at h3
      rw [zcor_app (by omega), zcor_app h]
      exact (zcau_none.mp h3).2 i hij
    · have ej : j = v.length + 1 := by omega
      subst ej
      have h3 : zcau k (lN 0) (v ++ [x]) (v.length + 1) = none := by
        split at hne
        · next h5 => exact Option.isNone_iff_eq_none.mp h5
        · exact absurd rfl hne
      exact (zcau_none.mp h3).2 i hij
  · by_cases h : j < v.length
    · rw [z_app_lt h, zmwn_app (by omega)]
      exact (hg.2.2 j h).2.1 rfl
    · have e : j = v.length := by omega
      subst e
      rw [z_app_last, zmwn_app (Nat.le_refl _)]
      exact Nat.le_of_not_lt (fun q => hmw ⟨rfl, q⟩)
