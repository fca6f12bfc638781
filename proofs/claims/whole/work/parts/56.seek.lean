/-! seeking, in numbers -/
/-- one more than the greatest way among the first n -/
def zmwn (w : List Nat) : Nat → Nat
  | 0 => 0
  | n + 1 => max (zmwn w n) (w.getD n 0 + 1)
theorem zmwn_app {w v : List Nat} : ∀ {n : Nat}, n ≤ w.length → zmwn (w ++ v) n = zmwn w n
  | 0, _ => rfl
  | n + 1, h => by
    show max (zmwn (w ++ v) n) ((w ++ v).getD n 0 + 1) = max (zmwn w n) (w.getD n 0 + 1)
    rw [zmwn_app (by omega), z_app_lt (by omega)]
theorem zmwn_le {w : List Nat} (h : ∀ x ∈ w, x < 6) : ∀ n, zmwn w n ≤ 6
  | 0 => Nat.zero_le _
  | n + 1 => by
    have h1 := zmwn_le h n
    have h2 := z_at6 h n
    show max (zmwn w n) (w.getD n 0 + 1) ≤ 6
    omega
theorem zmwn_s {w : List Nat} {x : Nat} : zmwn (w ++ [x]) (w.length + 1) = max (zmwn w w.length) (x + 1) := by
  show max (zmwn (w ++ [x]) w.length) ((w ++ [x]).getD w.length 0 + 1) = _
  rw [zmwn_app (Nat.le_refl _), z_app_last]
/-- an open row's two corners -/
def zopp (k : Nat) (w : List Nat) (i j : Nat) : Bool := decide (0 < zpc (zcor w i ^^^ zcor w j)) && (decide (min (j - i) k ≤ zpc (zcor w i ^^^ zcor w j)) || decide (i + zpc (zcor w j) < k))
def zop (k : Nat) (B : Int64) (w : List Nat) (j : Nat) : Bool := !zbit B (zcor w j) && zga (fun i => zopp k w i j) j
theorem zopp_app {k : Nat} {w v : List Nat} {i j : Nat} (hi : i ≤ w.length) (hj : j ≤ w.length) : zopp k (w ++ v) i j = zopp k w i j := by
  unfold zopp
  rw [zcor_app hi, zcor_app hj]
theorem zop_app {k : Nat} {B : Int64} {w v : List Nat} {j : Nat} (hj : j ≤ w.length) : zop k B (w ++ v) j = zop k B w j := by
  unfold zop
  rw [zcor_app hj, zga_cong (fun i hi => zopp_app (v := v) (by omega) hj)]
theorem znr_app {k : Nat} {w v : List Nat} {i j : Nat} (hi : i ≤ w.length) (hj : j ≤ w.length) : znr k (w ++ v) j i = znr k w j i := by
  unfold znr
  rw [zcor_app hi, zcor_app hj]
theorem zcau_app {k : Nat} {B : Int64} {w v : List Nat} {j : Nat} (hj : j ≤ w.length) : zcau k B (w ++ v) j = zcau k B w j := by
  unfold zcau
  rw [zcor_app hj, zff_cong (fun i hi => znr_app (v := v) (by omega) hj)]
/-- what a step more makes of a row: 0 no try, 1 gone on with, 2 a ring -/
def zhw (D k : Nat) (B : Int64) (ring : Bool) (v : List Nat) (x : Nat) : Nat :=
  if v.length = 64 then 0
  else if B = lN 0 ∧ zmwn v v.length < x then 0
  else if ring = true then (if zrg D k B (v ++ [x]) = true then 2 else if zop k B (v ++ [x]) (v.length + 1) = true then 1 else 0)
  else if (zcau k B (v ++ [x]) (v.length + 1)).isNone = true then 1 else 0
theorem zhw_le (D k : Nat) (B : Int64) (ring : Bool) (v : List Nat) (x : Nat) : zhw D k B ring v x ≤ 2 := by
  unfold zhw
  split
  · omega
  · split
    · omega
    · split
      · split
        · omega
        · split <;> omega
      · split <;> omega
/-- the first way from x on that is a try -/
def zsc (h : Nat → Nat) (D x : Nat) : Option Nat := zff (fun y => decide (x ≤ y ∧ h y ≠ 0)) D
theorem zsc_hit {h : Nat → Nat} {D x : Nat} (hx : x < D) (h1 : h x ≠ 0) : zsc h D x = some x := zff_of hx (decide_eq_true ⟨Nat.le_refl _, h1⟩) (fun j hj => decide_eq_false (fun q => by omega))
theorem zsc_miss {h : Nat → Nat} {D x : Nat} (h1 : h x = 0) : zsc h D x = zsc h D (x + 1) := zff_cong (fun y _ => by
  rw [decide_eq_decide]
  constructor
  · rintro ⟨h2, h3⟩
    refine ⟨?_, h3⟩
    by_cases e : x = y
    · subst e; exact absurd h1 h3
    · omega
  · rintro ⟨h2, h3⟩
    exact ⟨by omega, h3⟩)
theorem zsc_none {h : Nat → Nat} {D x : Nat} (h1 : ∀ y, x ≤ y → y < D → h y = 0) : zsc h D x = none := zff_none.mpr (fun y hy => decide_eq_false (fun q => q.2 (h1 y q.1 hy)))
theorem zsc_some {h : Nat → Nat} {D x y : Nat} (h1 : zsc h D x = some y) : x ≤ y ∧ y < D ∧ h y ≠ 0 ∧ ∀ z, x ≤ z → z < y → h z = 0 := by
  have h2 := zff_some h1
  have h3 := of_decide_eq_true h2.2.1
  refine ⟨h3.1, h2.1, h3.2, fun z hz hz2 => ?_⟩
  have h4 := of_decide_eq_false (h2.2.2 z hz2)
  exact Nat.eq_zero_of_not_pos (fun q => h4 ⟨hz, by omega⟩)
theorem zsc_no {h : Nat → Nat} {D x : Nat} (h1 : zsc h D x = none) : ∀ y, x ≤ y → y < D → h y = 0 := fun y hy hD => by
  have h2 := of_decide_eq_false (zff_none.mp h1 y hD)
  exact Nat.eq_zero_of_not_pos (fun q => h2 ⟨hy, by omega⟩)
/-- the next try from a row (read backward) and its next way -/
def zbk (hw : List Nat → Nat → Nat) (D : Nat) : List Nat → Nat → Option (List Nat × Nat)
  | [], x => match zsc (hw []) D x with
    | some y => some ([y], hw [] y)
    | none => none
  | z :: r, x => match zsc (hw (r.reverse ++ [z])) D x with
    | some y => some (r.reverse ++ [z] ++ [y], hw (r.reverse ++ [z]) y)
    | none => zbk hw D r (z + 1)
theorem zbk_hit {hw : List Nat → Nat → Nat} {D : Nat} {rv : List Nat} {x y : Nat} (h : zsc (hw rv.reverse) D x = some y) : zbk hw D rv x = some (rv.reverse ++ [y], hw rv.reverse y) := by
  cases rv with
  | nil =>
    have h : zsc (hw []) D x = some y := h
    unfold zbk
    rw [h]
    rfl
  | cons z r =>
    rw [List.reverse_cons] at h ⊢
    unfold zbk
    rw [h]
theorem zbk_nil {hw : List Nat → Nat → Nat} {D x : Nat} (h : zsc (hw []) D x = none) : zbk hw D [] x = none := by
  unfold zbk
  rw [h]
theorem zbk_cons {hw : List Nat → Nat → Nat} {D z x : Nat} {r : List Nat} (h : zsc (hw (r.reverse ++ [z])) D x = none) : zbk hw D (z :: r) x = zbk hw D r (z + 1) := by
  conv => lhs; unfold zbk
  rw [h]
theorem zbk_miss {hw : List Nat → Nat → Nat} {D : Nat} {rv : List Nat} {x : Nat} (h : hw rv.reverse x = 0) : zbk hw D rv x = zbk hw D rv (x + 1) := by
  have e := zsc_miss (D := D) h
  cases h2 : zsc (hw rv.reverse) D x with
  | some y =>
    rw [zbk_hit h2, zbk_hit (e ▸ h2)]
  | none =>
    rw [h2] at e
    cases rv with
    | nil => rw [zbk_nil h2, zbk_nil e.symm]
    | cons z r =>
      rw [List.reverse_cons] at h2 e
      rw [zbk_cons h2, zbk_cons e.symm]
abbrev zSta : Type := List Nat × Nat
/-- the next try behind a state: rows with m steps, and rings, are not gone on with -/
def znt (hw : List Nat → Nat → Nat) (D m : Nat) (s : zSta) : Option zSta := if s.2 = 2 ∨ m ≤ s.1.length then (match s.1.reverse with
    | [] => none
    | z :: r => zbk hw D r (z + 1))
  else zbk hw D s.1.reverse 0
theorem znt_on {hw : List Nat → Nat → Nat} {D m : Nat} {v : List Nat} {h : Nat} (h1 : h ≠ 2) (h2 : v.length < m) : znt hw D m (v, h) = zbk hw D v.reverse 0 := by
  unfold znt
  rw [if_neg (by simp; omega)]
theorem znt_back {hw : List Nat → Nat → Nat} {D m : Nat} {v : List Nat} {z h : Nat} (h1 : h = 2 ∨ m ≤ v.length + 1) : znt hw D m (v ++ [z], h) = zbk hw D v.reverse (z + 1) := by
  unfold znt
  rw [if_pos (by simpa using h1)]
  simp only [List.reverse_append, List.reverse_cons, List.reverse_nil, List.nil_append, List.singleton_append]
theorem znt_nil {hw : List Nat → Nat → Nat} {D m h : Nat} (h1 : h = 2 ∨ m = 0) : znt hw D m ([], h) = none := by
  unfold znt
  rw [if_pos (by simpa using h1)]
  rfl
/-- with 64 steps there is none behind -/
theorem znt_64 {D k : Nat} {B : Int64} {ring : Bool} {v : List Nat} {h : Nat} (hv : v.length ≤ 64) : znt (zhw D k B ring) D 65 (v, h) = znt (zhw D k B ring) D 64 (v, h) := by
  by_cases h2 : h = 2
  · unfold znt
    rw [if_pos (Or.inl h2), if_pos (Or.inl h2)]
  · by_cases h3 : v.length < 64
    · rw [znt_on h2 (by omega), znt_on h2 h3]
    · have h4 : v.length = 64 := by omega
      rw [znt_on h2 (by omega)]
      rcases List.eq_nil_or_concat v with e | ⟨u, z, e⟩
      · subst e; simp at h4
      · rw [List.concat_eq_append] at e
        subst e
        rw [znt_back (Or.inr (by simp at h4; omega)), List.reverse_append]
        refine zbk_cons (zsc_none (fun y _ _ => ?_))
        unfold zhw
        rw [if_pos (by simpa using h4)]
/-! what is kept of the tries -/
def zbes (b v : List Nat) : List Nat := if b.length < v.length then v else b
abbrev zAc : Type := List Nat × Nat × List (List Nat)
def zupd (LF : List Nat → List Nat) (ring : Bool) (m : Nat) (two : Bool) (a : zAc) (s : zSta) : Option zAc :=
  if ring = true ∧ s.2 ≠ 2 then some a
  else if two = true ∧ s.1.length = m then
    if LF s.1 = s.1 then (if 200 ≤ a.2.2.length then none else some (zbes a.1 s.1, a.2.1 + 1, a.2.2 ++ [s.1])) else some (zbes a.1 s.1, a.2.1 + 1, a.2.2)
  else some (zbes a.1 s.1, a.2.1 + (if s.1.length = m then 1 else 0), a.2.2)
/-- the tries, up to n more: what is kept, how many there were, whether all were made -/
def zrun (stp : zSta → Option zSta) (up : zAc → zSta → Option zAc) : Nat → zSta → zAc → Nat → zAc × Nat × Bool
  | 0, s, a, t => (a, t, (stp s).isNone)
  | n + 1, s, a, t => match stp s with
    | none => (a, t, true)
    | some s' => match up a s' with
      | none => (a, t + 1, false)
      | some a' => zrun stp up n s' a' (t + 1)
theorem zrun_end {stp : zSta → Option zSta} {up : zAc → zSta → Option zAc} {n : Nat} {s : zSta} {a : zAc} {t : Nat} (h : stp s = none) : zrun stp up n s a t = (a, t, true) := by
  cases n with
  | zero =>
    unfold zrun
    rw [h]
    rfl
  | succ n =>
    unfold zrun
    rw [h]
theorem zrun_0 {stp : zSta → Option zSta} {up : zAc → zSta → Option zAc} {s s' : zSta} {a : zAc} {t : Nat} (h : stp s = some s') : zrun stp up 0 s a t = (a, t, false) := by
  unfold zrun
  rw [h]
  rfl
theorem zrun_no {stp : zSta → Option zSta} {up : zAc → zSta → Option zAc} {n : Nat} {s s' : zSta} {a : zAc} {t : Nat} (h : stp s = some s') (h2 : up a s' = none) : zrun stp up (n + 1) s a t = (a, t + 1, false) := by
  unfold zrun
  rw [h]
  dsimp only
  rw [h2]
theorem zrun_s {stp : zSta → Option zSta} {up : zAc → zSta → Option zAc} {n : Nat} {s s' : zSta} {a a' : zAc} {t : Nat} (h : stp s = some s') (h2 : up a s' = some a') : zrun stp up (n + 1) s a t = zrun stp up n s' a' (t + 1) := by
  conv => lhs; unfold zrun
  rw [h]
  dsimp only
  rw [h2]
/-- a row that is gone on with -/
def zgod (D k : Nat) (B : Int64) (ring : Bool) (v : List Nat) : Prop := zbit B 0 = false ∧ v.length ≤ 64 ∧ ∀ j, j < v.length → v.getD j 0 < D ∧ (B = lN 0 → v.getD j 0 ≤ zmwn v j) ∧ (ring = true → zop k B v (j + 1) = true) ∧ (ring = false → zcau k B v (j + 1) = none)
theorem zgod_nil {D k : Nat} {B : Int64} {ring : Bool} (h : zbit B 0 = false) : zgod D k B ring [] := ⟨h, by decide, fun j hj => absurd hj (by simp)⟩
theorem zgod_pre {D k : Nat} {B : Int64} {ring : Bool} {v u : List Nat} (h : zgod D k B ring (v ++ u)) : zgod D k B ring v := by
  obtain ⟨h1, h2, h3⟩ := h
  rw [List.length_append] at h2 h3
  refine ⟨h1, by omega, fun j hj => ?_⟩
  have h4 := h3 j (by omega)
  rw [z_app_lt hj, zmwn_app (by omega), zop_app (by omega), zcau_app (by omega)] at h4
  exact h4
theorem zgod_app {D k : Nat} {B : Int64} {ring : Bool} {v : List Nat} {x : Nat} (h : zgod D k B ring v) (hx : x < D) (h1 : zhw D k B ring v x = 1) : zgod D k B ring (v ++ [x]) := by
  obtain ⟨g1, g2, g3⟩ := h
  unfold zhw at h1
  split at h1
  · cases h1
  · next hl =>
    split at h1
    · cases h1
    · next hm =>
      refine ⟨g1, by simp; omega, fun j hj => ?_⟩
      rw [List.length_append] at hj
      simp at hj
      by_cases e : j < v.length
      · have h4 := g3 j e
        rw [z_app_lt e, zmwn_app (by omega), zop_app (by omega), zcau_app (by omega)]
        exact h4
      · have e : j = v.length := by omega
        subst e
        rw [z_app_last, zmwn_app (Nat.le_refl _)]
        refine ⟨hx, fun hB => Nat.le_of_not_lt (fun q => hm ⟨hB, q⟩), fun hr => ?_, fun hr => ?_⟩
        · rw [if_pos hr] at h1
          split at h1
          · cases h1
          · split at h1
            · assumption
            · cases h1
        · rw [if_neg (by rw [hr]; decide)] at h1
          split at h1
          · next h5 => exact Option.isNone_iff_eq_none.mp h5
          · cases h1
theorem zgod_row {D k : Nat} {B : Int64} {ring : Bool} {v : List Nat} (hD : D ≤ 6) (h : zgod D k B ring v) : zrow v := by
  refine ⟨h.2.1, fun x hx => ?_⟩
  obtain ⟨j, hj, rfl⟩ := List.mem_iff_getElem.mp hx
  have := (h.2.2 j hj).1
  rw [List.getD_eq_getElem?_getD, List.getElem?_eq_getElem hj] at this
  have this : v[j] < D := this
  omega
theorem zrow_snoc {v : List Nat} {x : Nat} (h : zrow v) (hx : x < 6) (hl : v.length < 64) : zrow (v ++ [x]) := ⟨by simp; omega, z_app6 h hx⟩
