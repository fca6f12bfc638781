/-! numbers: what a test decides -/
theorem zix_nI {n : Nat} (h : n < 2 ^ 31) : zix (nI n) = n := nI_clamp h
theorem zinR_nI {n N : Nat} (h : n < N) (hN : N < 2 ^ 31) : zinR (nI n) N = True := eq_true (vp_in_nI h hN)
theorem nI_ltT {a b : Nat} (h : a < b) (hb : b < 2 ^ 31) : (nI a < nI b) = True := eq_true (nI_lt h hb)
theorem nI_ltF {a b : Nat} (h : b ≤ a) (ha : a < 2 ^ 31) : (nI a < nI b) = False := eq_false (nI_nlt h ha)
theorem nI_leT {a b : Nat} (h : a ≤ b) (hb : b < 2 ^ 31) : (nI a ≤ nI b) = True := eq_true (nI_le h hb)
theorem nI_leF {a b : Nat} (h : b < a) (ha : a < 2 ^ 31) : (nI a ≤ nI b) = False := eq_false (nI_ge h ha)
theorem nI_eqT {a b : Nat} (h : a = b) : (nI a = nI b) = True := eq_true (by rw [h])
theorem nI_eqF {a b : Nat} (h : a ≠ b) (ha : a < 2 ^ 31) (hb : b < 2 ^ 31) : (nI a = nI b) = False := eq_false (fun e => h ((nI_eq ha hb).mp e))
theorem nI_sub {a b : Nat} (h : b ≤ a) : nI a - nI b = nI (a - b) := pk_sub h
theorem nI_mul (a b : Nat) : nI a * nI b = nI (a * b) := pk_mul a b
theorem ng_toInt {b : Nat} (hb : b < 2 ^ 31) : (-nI b).toInt = -(b : Int) := by
  rw [Int32.toInt_neg, nI_toInt hb]
  exact Int.bmod_eq_of_le (by omega) (by omega)
theorem ng_ltT {a b : Nat} (h : 0 < a + b) (ha : a < 2 ^ 31) (hb : b < 2 ^ 31) : (-nI b < nI a) = True := eq_true (by
  rw [Int32.lt_iff_toInt_lt, ng_toInt hb, nI_toInt ha]; omega)
theorem ng_ltF {a b : Nat} (ha : a < 2 ^ 31) (hb : b < 2 ^ 31) : (nI a < -nI b) = False := eq_false (by
  rw [Int32.lt_iff_toInt_lt, ng_toInt hb, nI_toInt ha]; omega)
theorem ng_leT {a b : Nat} (ha : a < 2 ^ 31) (hb : b < 2 ^ 31) : (-nI b ≤ nI a) = True := eq_true (by
  rw [Int32.le_iff_toInt_le, ng_toInt hb, nI_toInt ha]; omega)
theorem ng_leF {a b : Nat} (h : 0 < a + b) (ha : a < 2 ^ 31) (hb : b < 2 ^ 31) : (nI a ≤ -nI b) = False := eq_false (by
  rw [Int32.le_iff_toInt_le, ng_toInt hb, nI_toInt ha]; omega)
theorem ng_eqF {a b : Nat} (h : 0 < a + b) (ha : a < 2 ^ 31) (hb : b < 2 ^ 31) : (-nI b = nI a) = False := eq_false (by
  rw [← Int32.toInt_inj, ng_toInt hb, nI_toInt ha]; omega)
theorem ng_eqG {a b : Nat} (h : 0 < a + b) (ha : a < 2 ^ 31) (hb : b < 2 ^ 31) : (nI a = -nI b) = False := eq_false (by
  rw [← Int32.toInt_inj, ng_toInt hb, nI_toInt ha]; omega)
theorem ng_inj {a b : Nat} (ha : a < 2 ^ 31) (hb : b < 2 ^ 31) : (-nI a = -nI b) = (a = b) := propext (by
  rw [← Int32.toInt_inj, ng_toInt hb, ng_toInt ha]; omega)
/-- an int is a number below n, or it is less than 0 or n and more -/
theorem z_ix (x : Int32) (n : Nat) (hn : n < 2 ^ 31) : (∃ j, j < n ∧ x = nI j) ∨ (x < nI 0 ∨ nI n ≤ x) := by
  rcases pk_ix x hn with h | h | h
  · exact Or.inr (Or.inl h)
  · exact Or.inr (Or.inr h)
  · exact Or.inl h
/-- an int is a number, or less than 0 -/
theorem z_ng (x : Int32) : (∃ j, j < 2 ^ 31 ∧ x = nI j) ∨ x < nI 0 := by
  by_cases h : x < nI 0
  · exact Or.inr h
  · exact Or.inl (nI_of h)
theorem iteI {c A B : Prop} {h : Decidable c} (a : c → A) (b : ¬ c → B) : if c then A else B := by
  by_cases hc : c
  · rw [if_pos hc]; exact a hc
  · rw [if_neg hc]; exact b hc
theorem z_nlt {x y : Int32} (h : y ≤ x) : (x < y) = False := eq_false (Int32.not_lt.mpr h)
theorem z_nle {x y : Int32} (h : y < x) : (x ≤ y) = False := eq_false (Int32.not_le.mpr h)
theorem z_ltneg {x : Int32} (n : Nat) (h : x < nI 0) (hn : n < 2 ^ 31) : x < nI n := by
  rw [Int32.lt_iff_toInt_lt] at h ⊢
  rw [nI_toInt hn]
  rw [nI_toInt (by decide)] at h
  omega
theorem z_gebig {x : Int32} {n m : Nat} (h : nI n ≤ x) (hm : m ≤ n) (hn : n < 2 ^ 31) : nI m ≤ x := Int32.le_trans (nI_le hm hn) h
theorem z_ne_lt {x : Int32} {n : Nat} (h : x < nI 0) (hn : n < 2 ^ 31) : (x = nI n) = False := eq_false (fun e => by
  subst e; exact nI_pos hn h)
theorem nx_x (a b : Nat) : nI a ^^^ nI b = nI (a ^^^ b) := Int32.toBitVec_inj.mp (by
  show BitVec.ofNat 32 a ^^^ BitVec.ofNat 32 b = BitVec.ofNat 32 (a ^^^ b)
  apply BitVec.eq_of_toNat_eq
  simp [Nat.xor_mod_two_pow])
theorem nx_a (a b : Nat) : nI a &&& nI b = nI (a &&& b) := Int32.toBitVec_inj.mp (by
  show BitVec.ofNat 32 a &&& BitVec.ofNat 32 b = BitVec.ofNat 32 (a &&& b)
  apply BitVec.eq_of_toNat_eq
  simp [Nat.and_mod_two_pow])
theorem nx_s : ∀ w, w < 31 → nI 1 <<< (nI w &&& 31) = nI (2 ^ w) := by decide +kernel
theorem nx_s1 {w : Nat} (h : w < 31) : nI 1 <<< (nI w &&& 31) = nI (2 ^ w) := nx_s w h
theorem nx_r0 : ∀ w, w < 6 → ∀ c, c < 64 → nI c >>> (nI w &&& 31) &&& nI 1 = nI (c / 2 ^ w % 2) := by decide +kernel
theorem nx_r {w c : Nat} (h : w < 6) (hc : c < 64) : nI c >>> (nI w &&& 31) &&& nI 1 = nI (c / 2 ^ w % 2) := nx_r0 w h c hc
theorem n_ltT {x : Int32} {n : Nat} (h : x < nI 0) (hn : n < 2 ^ 31) : (x < nI n) = True := eq_true (z_ltneg n h hn)
theorem n_leT {x : Int32} {n : Nat} (h : x < nI 0) (hn : n < 2 ^ 31) : (x ≤ nI n) = True := eq_true (Int32.le_of_lt (z_ltneg n h hn))
theorem n_ltF {x : Int32} {n : Nat} (h : x < nI 0) (hn : n < 2 ^ 31) : (nI n < x) = False := eq_false (Int32.not_lt.mpr (Int32.le_of_lt (z_ltneg n h hn)))
theorem n_leF {x : Int32} {n : Nat} (h : x < nI 0) (hn : n < 2 ^ 31) : (nI n ≤ x) = False := eq_false (Int32.not_le.mpr (z_ltneg n h hn))
theorem n_eqF {x : Int32} {n : Nat} (h : x < nI 0) (hn : n < 2 ^ 31) : (x = nI n) = False := z_ne_lt h hn
theorem n_eqG {x : Int32} {n : Nat} (h : x < nI 0) (hn : n < 2 ^ 31) : (nI n = x) = False := eq_false (fun e => by have := z_ne_lt h hn; rw [e] at this; simp at this)
/-! locals of which only the first are known -/
theorem l_s0g (r : List Value) (v : Value) : zs1 r 0 v = v :: r.tail := by cases r <;> rfl
theorem l_s1g (r : List Value) (v : Value) : zs1 r 1 v = zkl (zlg r 0) :: v :: r.tail.tail := by
  cases r with
  | nil => rfl
  | cons a r => cases r <;> rfl
theorem l_t0g (r : List Value) (v : Value) : zs2 r 0 v = v :: .retAddr 0 :: r.tail.tail := by
  cases r with
  | nil => rfl
  | cons a r => cases r <;> rfl
