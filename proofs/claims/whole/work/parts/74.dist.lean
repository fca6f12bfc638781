/-! stretches of steps: what they come to -/
def zE (q : Nat → Nat) (i : Nat) : Nat → Nat
  | 0 => 0
  | n + 1 => zE q i n ^^^ 2 ^ q (i + n)
theorem zE_s (q : Nat → Nat) (i n : Nat) : zE q i (n + 1) = zE q i n ^^^ 2 ^ q (i + n) := rfl
theorem zE_cong {q r : Nat → Nat} {i a : Nat} : ∀ {n : Nat}, (∀ t, t < n → q (i + t) = r (a + t)) → zE q i n = zE r a n
  | 0, _ => rfl
  | n + 1, h => by rw [zE_s, zE_s, zE_cong (fun t ht => h t (by omega)), h n (by omega)]
theorem zE_add (q : Nat → Nat) (i n : Nat) : ∀ m, zE q i (n + m) = zE q i n ^^^ zE q (i + n) m
  | 0 => by
    show zE q i n = zE q i n ^^^ 0
    rw [Nat.xor_zero]
  | m + 1 => by
    show zE q i (n + m) ^^^ 2 ^ q (i + (n + m)) = zE q i n ^^^ (zE q (i + n) m ^^^ 2 ^ q (i + n + m))
    rw [zE_add q i n m, Nat.xor_assoc, Nat.add_assoc]
theorem zE_lt {q : Nat → Nat} (h : ∀ t, q t < 6) (i : Nat) : ∀ n, zE q i n < 64
  | 0 => by show 0 < 64; decide
  | n + 1 => Nat.xor_lt_two_pow (n := 6) (zE_lt h i n) (Nat.pow_lt_pow_right (by decide) (h _))
theorem zE_head (q : Nat → Nat) (i n : Nat) : zE q i (n + 1) = 2 ^ q i ^^^ zE q (i + 1) n := by
  have h := zE_add q i 1 n
  rw [Nat.add_comm 1 n] at h
  rw [h]
  show (0 ^^^ 2 ^ q (i + 0)) ^^^ _ = _
  rw [Nat.zero_xor, Nat.add_zero]
theorem zE_rev {q r : Nat → Nat} {i a : Nat} : ∀ {n : Nat}, (∀ t, t < n → q (i + t) = r (a + (n - 1 - t))) → zE q i n = zE r a n
  | 0, _ => rfl
  | n + 1, h => by
    rw [zE_s, zE_head r a n]
    have e := h n (by omega)
    have e1 : a + (n + 1 - 1 - n) = a := by omega
    rw [e1] at e
    rw [e, zE_rev (q := q) (r := r) (i := i) (a := a + 1) (n := n) (fun t ht => by
      rw [h t (by omega)]
      congr 1
      omega), Nat.xor_comm]
/-- corners by stretches -/
theorem zcor_E (w : List Nat) (i : Nat) : ∀ n, zcor w (i + n) = zcor w i ^^^ zE (zsw' w) i n
  | 0 => by
    show zcor w i = zcor w i ^^^ 0
    rw [Nat.xor_zero]
  | n + 1 => by
    show zcor w (i + n) ^^^ 2 ^ w.getD (i + n) 0 = zcor w i ^^^ (zE (zsw' w) i n ^^^ 2 ^ zsw' w (i + n))
    rw [zcor_E w i n, Nat.xor_assoc]
    rfl
theorem zcor_d (w : List Nat) (i n : Nat) : zcor w i ^^^ zcor w (i + n) = zE (zsw' w) i n := by
  rw [zcor_E, ← Nat.xor_assoc, Nat.xor_self, Nat.zero_xor]
theorem zcor_E0 (w : List Nat) (n : Nat) : zcor w n = zE (zsw' w) 0 n := by
  have h := zcor_E w 0 n
  rw [Nat.zero_add] at h
  rw [h]
  show 0 ^^^ _ = _
  rw [Nat.zero_xor]
/-- which ways come an odd number of times -/
def zpr (q : Nat → Nat) (y i : Nat) : Nat → Bool
  | 0 => false
  | n + 1 => zpr q y i n ^^ decide (q (i + n) = y)
theorem zE_bit (q : Nat → Nat) (y i : Nat) : ∀ n, (zE q i n).testBit y = zpr q y i n
  | 0 => Nat.zero_testBit y
  | n + 1 => by
    rw [zE_s, Nat.testBit_xor, zE_bit q y i n, Nat.testBit_two_pow]
    rfl
theorem zpr_cong {q g : Nat → Nat} {y z i : Nat} : ∀ {n : Nat}, (∀ t, t < n → (q (i + t) = y ↔ g (i + t) = z)) → zpr q y i n = zpr g z i n
  | 0, _ => rfl
  | n + 1, h => by
    show (zpr q y i n ^^ decide (q (i + n) = y)) = (zpr g z i n ^^ decide (g (i + n) = z))
    rw [zpr_cong (fun t ht => h t (by omega))]
    congr 1
    exact decide_eq_decide.mpr (h n (by omega))
theorem zpr_ex {q : Nat → Nat} {y i : Nat} : ∀ {n : Nat}, zpr q y i n = true → ∃ t, t < n ∧ q (i + t) = y
  | 0, h => by cases h
  | n + 1, h => by
    by_cases e : q (i + n) = y
    · exact ⟨n, by omega, e⟩
    · have h : (zpr q y i n ^^ decide (q (i + n) = y)) = true := h
      rw [decide_eq_false e, Bool.xor_false] at h
      obtain ⟨t, ht, h2⟩ := zpr_ex h
      exact ⟨t, by omega, h2⟩
theorem zpop_ct (x : Nat) : ∀ n, zpop x n = fb_ct (fun k => x.testBit k) n
  | 0 => rfl
  | n + 1 => by
    show zpop x n + (x >>> n) % 2 = _
    rw [fb_ct_succ, zpop_ct x n, Nat.shiftRight_eq_div_pow, ← Nat.toNat_testBit]
    cases x.testBit n <;> rfl
theorem zpc_ct (x : Nat) : zpc x = fb_ct (fun k => x.testBit k) 6 := zpop_ct x 6
/-- other names for the ways: as far as before -/
theorem zE_ren_le {q g : Nat → Nat} {i n : Nat} (hg : ∀ t, t < n → g (i + t) < 6) (h : ∀ t u, t < n → u < n → (q (i + t) = q (i + u) ↔ g (i + t) = g (i + u))) : zpc (zE q i n) ≤ zpc (zE g i n) := by
  rw [zpc_ct, zpc_ct]
  have key : ∀ y, (zE q i n).testBit y = true → ∃ t, t < n ∧ q (i + t) = y ∧ zff (fun t => decide (q (i + t) = y)) n = some t := by
    intro y hy
    rw [zE_bit] at hy
    obtain ⟨t, ht, e⟩ := zpr_ex hy
    cases hz : zff (fun t => decide (q (i + t) = y)) n with
    | none =>
      have := zff_none.mp hz t ht
      rw [decide_eq_true e] at this
      cases this
    | some u =>
      have h2 := zff_some hz
      exact ⟨u, h2.1, of_decide_eq_true h2.2.1, rfl⟩
  refine fb_inj_le (fun y => match zff (fun t => decide (q (i + t) = y)) n with | none => 0 | some t => g (i + t)) (fun y hy hp => ?_) (fun y z hy hz hp hp2 e => ?_)
  · obtain ⟨t, ht, e, hf⟩ := key y hp
    rw [hf]
    refine ⟨hg t ht, ?_⟩
    show (zE g i n).testBit (g (i + t)) = true
    have hp : (zE q i n).testBit y = true := hp
    rw [zE_bit]
    rw [zE_bit] at hp
    rw [← hp]
    refine (zpr_cong (fun u hu => ?_)).symm
    rw [← e]
    exact h u t hu ht
  · obtain ⟨t, ht, e1, hf⟩ := key y hp
    obtain ⟨u, hu, e2, hf2⟩ := key z hp2
    rw [hf, hf2] at e
    have e : g (i + t) = g (i + u) := e
    rw [← e1, ← e2]
    exact (h t u ht hu).mpr e
theorem zE_ren {q g : Nat → Nat} {i n : Nat} (hq : ∀ t, t < n → q (i + t) < 6) (hg : ∀ t, t < n → g (i + t) < 6) (h : ∀ t u, t < n → u < n → (q (i + t) = q (i + u) ↔ g (i + t) = g (i + u))) : zpc (zE q i n) = zpc (zE g i n) :=
  Nat.le_antisymm (zE_ren_le hg h) (zE_ren_le hq (fun t u ht hu => (h t u ht hu).symm))
/-! round about -/
def zcy (s : Nat → Nat) (L : Nat) : Nat → Nat := fun t => s (t % L)
theorem zcy_lt {s : Nat → Nat} (h : ∀ t, s t < 6) (L t : Nat) : zcy s L t < 6 := h _
theorem zcy_per (s : Nat → Nat) (L t : Nat) : zcy s L (t + L) = zcy s L t := by
  unfold zcy
  rw [Nat.add_mod_right]
theorem zcy_in {s : Nat → Nat} {L t : Nat} (h : t < L) : zcy s L t = s t := by
  unfold zcy
  rw [Nat.mod_eq_of_lt h]
theorem zcy_E_per (s : Nat → Nat) (L a n : Nat) : zE (zcy s L) (a + L) n = zE (zcy s L) a n := zE_cong (fun t _ => by
  have e : a + L + t = (a + t) + L := by omega
  rw [e, zcy_per])
theorem zcy_E_mod (s : Nat → Nat) {L : Nat} (n : Nat) : ∀ a, zE (zcy s L) a n = zE (zcy s L) (a % L) n := fun a => zE_cong (fun t _ => by
  unfold zcy
  rw [Nat.mod_add_mod])
/-- all round, from any place: back -/
theorem zcy_all {s : Nat → Nat} {L : Nat} (h : zE s 0 L = 0) : ∀ a, zE (zcy s L) a L = 0
  | 0 => by
    exact (zE_cong (fun t ht => by rw [Nat.zero_add, zcy_in ht])).trans h
  | a + 1 => by
    have e1 := zE_head (zcy s L) a L
    have e2 := zE_s (zcy s L) a L
    rw [zcy_all h a, Nat.zero_xor, zcy_per] at e2
    rw [e2] at e1
    have e3 := congrArg (fun z => 2 ^ zcy s L a ^^^ z) e1
    rw [Nat.xor_self, ← Nat.xor_assoc, Nat.xor_self, Nat.zero_xor] at e3
    exact e3.symm
theorem zcy_co {s : Nat → Nat} {L n : Nat} (h : zE s 0 L = 0) (hn : n ≤ L) (a : Nat) : zE (zcy s L) a n = zE (zcy s L) (a + n) (L - n) := by
  have e := zE_add (zcy s L) a n (L - n)
  have e1 : n + (L - n) = L := by omega
  rw [e1, zcy_all h] at e
  have e3 := congrArg (fun z => zE (zcy s L) a n ^^^ z) e
  rw [Nat.xor_zero, ← Nat.xor_assoc, Nat.xor_self, Nat.zero_xor] at e3
  exact e3
/-- how far places of a ring are from one another -/
theorem zrg_cy {D k : Nat} {B : Int64} {w : List Nat} (hw : zrow w) (hr : zrg D k B w = true) {n : Nat} (h0 : 0 < n) (hn : n < w.length) (a : Nat) : min (min n (w.length - n)) k ≤ zpc (zE (zcy (zsw' w) w.length) a n) := by
  obtain ⟨-, hz, -, hd⟩ := zrg_ok hr
  have hL : 0 < w.length := by omega
  have hall : zE (zsw' w) 0 w.length = 0 := by rw [← zcor_E0]; exact hz
  -- between two places of the row, the last one being the first again
  have two : ∀ i j, i < j → j ≤ w.length → ¬ (i = 0 ∧ j = w.length) → min (min (j - i) (w.length - (j - i))) k ≤ zpc (zcor w i ^^^ zcor w j) := by
    intro i j hij hj h
    by_cases e : j = w.length
    · have h2 := hd 0 i (by omega) (by omega)
      have e0 : zcor w 0 = 0 := rfl
      rw [e, hz, Nat.xor_zero]
      rw [e0, Nat.zero_xor] at h2
      have : min (w.length - i) (w.length - (w.length - i)) = min (i - 0) (w.length - (i - 0)) := by omega
      rw [this]
      exact h2
    · exact hd i j hij (by omega)
  have inn : ∀ b l, 0 < l → l < w.length → b + l ≤ w.length → min (min l (w.length - l)) k ≤ zpc (zE (zcy (zsw' w) w.length) b l) := by
    intro b l hl hl2 hbl
    have e : zE (zcy (zsw' w) w.length) b l = zE (zsw' w) b l := zE_cong (fun t ht => zcy_in (by omega))
    rw [e, ← zcor_d]
    have h2 := two b (b + l) (by omega) hbl (by omega)
    rw [Nat.add_sub_cancel_left] at h2
    exact h2
  rw [zcy_E_mod]
  have ha := Nat.mod_lt a hL
  by_cases h : a % w.length + n ≤ w.length
  · exact inn _ n h0 hn h
  · rw [zcy_co hall (by omega)]
    have e : a % w.length + n = (a % w.length + n - w.length) + w.length := by omega
    rw [e, zcy_E_per]
    have h2 := inn (a % w.length + n - w.length) (w.length - n) (by omega) (by omega) (by omega)
    have e3 : w.length - (w.length - n) = n := by omega
    rw [e3, Nat.min_comm (w.length - n) n] at h2
    exact h2
