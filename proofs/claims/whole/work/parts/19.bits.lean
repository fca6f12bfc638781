/-! sets of corners: bits of a long; how many -/
theorem zbit_l {n c : Nat} (hc : c < 64) : zbit (lN n) c = n.testBit c := by
  show (BitVec.ofNat 64 n).getLsbD c = _
  rw [BitVec.getLsbD_ofNat]
  simp [hc]
theorem zbit_hi {x : Int64} {c : Nat} (hc : 64 ≤ c) : zbit x c = false := BitVec.getLsbD_of_ge _ _ hc
theorem zbit_ext {x y : Int64} (h : ∀ c, c < 64 → zbit x c = zbit y c) : x = y := Int64.toBitVec_inj.mp (BitVec.eq_of_getLsbD_eq fun i hi => h i hi)
theorem zbit_or (x y : Int64) (c : Nat) : zbit (x ||| y) c = (zbit x c || zbit y c) := by
  unfold zbit
  rw [Int64.toBitVec_or, BitVec.getLsbD_or]
theorem zbit_and (x y : Int64) (c : Nat) : zbit (x &&& y) c = (zbit x c && zbit y c) := by
  unfold zbit
  rw [Int64.toBitVec_and, BitVec.getLsbD_and]
theorem zbit_xor (x y : Int64) (c : Nat) : zbit (x ^^^ y) c = (zbit x c ^^ zbit y c) := by
  unfold zbit
  rw [Int64.toBitVec_xor, BitVec.getLsbD_xor]
theorem zbit_0 (c : Nat) : zbit (lN 0) c = false := by
  show (BitVec.ofNat 64 0).getLsbD c = false
  simp
theorem lN_m1 : (-lN 1).toBitVec = BitVec.allOnes 64 := by decide
theorem zbit_m1 {c : Nat} (hc : c < 64) : zbit (-lN 1) c = true := by
  unfold zbit
  rw [lN_m1, BitVec.getLsbD_allOnes]
  simp [hc]
/-- the complement -/
theorem zbit_not (x : Int64) {c : Nat} (hc : c < 64) : zbit (x ^^^ -lN 1) c = !zbit x c := by
  rw [zbit_xor, zbit_m1 hc, Bool.xor_true]
theorem zshl_amt : ∀ k, k < 64 → ((nI k).toInt64 &&& 63) = lN k := wb_c
theorem zbit_shl (x : Int64) {k : Nat} (hk : k < 64) (c : Nat) : zbit (x <<< ((nI k).toInt64 &&& 63)) c = (decide (c < 64) && (decide (k ≤ c) && zbit x (c - k))) := by
  rw [wb_c k hk]
  unfold zbit
  rw [Int64.toBitVec_shiftLeft, wb_tb, wb_sm k hk]
  have e : (BitVec.ofNat 64 k) = BitVec.ofNat 64 k := rfl
  rw [BitVec.shiftLeft_eq', BitVec.getLsbD_shiftLeft, BitVec.toNat_ofNat, Nat.mod_eq_of_lt (by omega)]
  by_cases h : k ≤ c
  · have h2 : ¬ c < k := by omega
    simp [h, h2]
  · simp [h]
theorem zbit_ushr (x : Int64) {k : Nat} (hk : k < 64) (c : Nat) : zbit ((x.toUInt64 >>> ((nI k).toInt64.toUInt64 &&& Int64.toUInt64 63)).toInt64) c = zbit x (k + c) := by
  obtain ⟨n, hn, rfl⟩ := wb_of x
  rw [wb_shr hn hk]
  by_cases hc : c < 64
  · rw [zbit_l hc]
    by_cases h2 : k + c < 64
    · rw [zbit_l h2, ← Nat.shiftRight_eq_div_pow, Nat.testBit_shiftRight]
    · rw [zbit_hi (by omega), ← Nat.shiftRight_eq_div_pow, Nat.testBit_shiftRight]
      exact Nat.testBit_lt_two_pow (Nat.lt_of_lt_of_le hn (Nat.pow_le_pow_right (by decide) (by omega)))
  · rw [zbit_hi (by omega), zbit_hi (by omega)]
theorem zbit_sshr (x : Int64) {k : Nat} (hk : k < 64) : zbit (x >>> ((nI k).toInt64 &&& 63)) 0 = zbit x k := by
  rw [wb_c k hk]
  unfold zbit
  rw [Int64.toBitVec_shiftRight, wb_tb, wb_sm k hk, BitVec.sshiftRight_eq', BitVec.getLsbD_sshiftRight, BitVec.toNat_ofNat, Nat.mod_eq_of_lt (by omega)]
  simp [hk]
theorem z_tb1 : ∀ c, c < 64 → Nat.testBit 1 c = decide (c = 0) := by decide +kernel
/-- the last bit alone -/
theorem zand1 (x : Int64) : x &&& lN 1 = lN (if zbit x 0 then 1 else 0) := by
  apply zbit_ext
  intro c hc
  rw [zbit_and, zbit_l hc, zbit_l hc]
  by_cases h : c = 0
  · subst h
    cases zbit x 0 <;> simp
  · have : Nat.testBit 1 c = false := by
      rw [z_tb1 c hc]
      simp [h]
    rw [this, Bool.and_false]
    cases zbit x 0 <;> simp [this]
theorem zone_shl : ∀ c, c < 64 → ∀ d, d < 64 → zbit (lN 1 <<< ((nI c).toInt64 &&& 63)) d = decide (d = c) := by
  intro c hc d hd
  rw [zbit_shl _ hc]
  by_cases h : c ≤ d
  · rw [zbit_l (by omega), z_tb1 _ (by omega)]
    by_cases e : d = c
    · subst e; simp [hd]
    · have : ¬ d - c = 0 := by omega
      simp [e, this]
  · have : ¬ d = c := by omega
    simp [h, this]
theorem zcmp_eq (a b : Int64) : (lg_cmp a b = nI 0) = (a = b) := by
  apply propext
  unfold lg_cmp
  by_cases h : b < a
  · rw [if_pos h]
    constructor
    · intro e; exact absurd e (by decide)
    · intro e; subst e; exact absurd h (Int64.lt_irrefl)
  · rw [if_neg h]
    by_cases e : a = b
    · rw [if_pos e]; exact ⟨fun _ => e, fun _ => rfl⟩
    · rw [if_neg e]; exact ⟨fun q => absurd q (by decide), fun q => absurd q e⟩
theorem zcmp_lt (a b : Int64) : (lg_cmp a b < nI 0) = (a < b) := by
  apply propext
  unfold lg_cmp
  by_cases h : b < a
  · rw [if_pos h]
    exact ⟨fun q => absurd q (by decide), fun q => absurd (Int64.lt_trans q h) Int64.lt_irrefl⟩
  · rw [if_neg h]
    by_cases e : a = b
    · rw [if_pos e]
      exact ⟨fun q => absurd q (by decide), fun q => absurd q (e ▸ Int64.lt_irrefl)⟩
    · rw [if_neg e]
      refine ⟨fun _ => ?_, fun _ => by decide⟩
      exact Int64.lt_of_le_of_ne (Int64.not_lt.mp h) e
theorem zcmp_le (a b : Int64) : (lg_cmp a b ≤ nI 0) = (a ≤ b) := by
  apply propext
  unfold lg_cmp
  by_cases h : b < a
  · rw [if_pos h]
    exact ⟨fun q => absurd q (by decide), fun q => absurd h (Int64.not_lt.mpr q)⟩
  · rw [if_neg h]
    refine ⟨fun _ => Int64.not_lt.mp h, fun _ => ?_⟩
    split <;> decide
/-! how many bits: the sum of the bytes' bits, as it is computed side by side -/
theorem bc_and {k a b m M : Nat} (ha : a < 2 ^ k) (hm : m < 2 ^ k) : (2 ^ k * b + a) &&& (2 ^ k * M + m) = 2 ^ k * (b &&& M) + (a &&& m) := by
  apply Nat.eq_of_testBit_eq
  intro j
  have h3 : a &&& m < 2 ^ k := Nat.lt_of_le_of_lt Nat.and_le_left ha
  rw [Nat.testBit_and, Nat.testBit_two_pow_mul_add _ ha, Nat.testBit_two_pow_mul_add _ hm, Nat.testBit_two_pow_mul_add _ h3]
  by_cases h : j < k
  · simp [h]
  · simp [h]
def bcv : List Nat → Nat
  | [] => 0
  | d :: r => 2 ^ 8 * bcv r + d
theorem bc_shr {h m : Nat} (hh : h ≤ 8) (hm : m < 2 ^ (8 - h)) : ∀ (ds : List Nat), (∀ d ∈ ds, d < 256) → (bcv ds / 2 ^ h) &&& bcv (ds.map fun _ => m) = bcv (ds.map fun d => (d / 2 ^ h) &&& m)
  | [], _ => by simp [bcv]
  | d :: r, hd => by
    have ih := bc_shr hh hm r (fun x hx => hd x (List.mem_cons_of_mem _ hx))
    have hd0 := hd d List.mem_cons_self
    have e1 : (2 ^ 8 : Nat) = 2 ^ h * 2 ^ (8 - h) := by rw [← Nat.pow_add]; congr 1; omega
    have hp : 0 < 2 ^ h := Nat.two_pow_pos h
    have hp2 : 0 < 2 ^ (8 - h) := Nat.two_pow_pos _
    have e2 : (2 ^ 8 * bcv r + d) / 2 ^ h = 2 ^ 8 * (bcv r / 2 ^ h) + (2 ^ (8 - h) * (bcv r % 2 ^ h) + d / 2 ^ h) := by
      rw [e1, Nat.mul_assoc, Nat.add_comm, Nat.add_mul_div_left _ _ hp]
      have := Nat.div_add_mod (bcv r) (2 ^ h)
      have h4 : 2 ^ (8 - h) * bcv r = 2 ^ h * 2 ^ (8 - h) * (bcv r / 2 ^ h) + 2 ^ (8 - h) * (bcv r % 2 ^ h) := by
        calc 2 ^ (8 - h) * bcv r = 2 ^ (8 - h) * (2 ^ h * (bcv r / 2 ^ h) + bcv r % 2 ^ h) := by rw [this]
          _ = _ := by rw [Nat.mul_add]; congr 1; rw [← Nat.mul_assoc, Nat.mul_comm (2 ^ (8 - h))]
      rw [h4]; rw [Nat.mul_assoc]; omega
    have hlt : d / 2 ^ h < 2 ^ (8 - h) := by
      rw [Nat.div_lt_iff_lt_mul hp, Nat.mul_comm, ← e1]; exact hd0
    have hlt2 : 2 ^ (8 - h) * (bcv r % 2 ^ h) + d / 2 ^ h < 2 ^ 8 := by
      have h5 : bcv r % 2 ^ h + 1 ≤ 2 ^ h := Nat.mod_lt _ hp
      calc 2 ^ (8 - h) * (bcv r % 2 ^ h) + d / 2 ^ h < 2 ^ (8 - h) * (bcv r % 2 ^ h) + 2 ^ (8 - h) := by omega
        _ = 2 ^ (8 - h) * (bcv r % 2 ^ h + 1) := by rw [Nat.mul_add, Nat.mul_one]
        _ ≤ 2 ^ (8 - h) * 2 ^ h := Nat.mul_le_mul_left _ h5
        _ = 2 ^ 8 := by rw [e1, Nat.mul_comm]
    have hm8 : m < 2 ^ 8 := Nat.lt_of_lt_of_le hm (Nat.pow_le_pow_right (by decide) (by omega))
    show ((2 ^ 8 * bcv r + d) / 2 ^ h) &&& (2 ^ 8 * bcv (r.map fun _ => m) + m) = 2 ^ 8 * bcv (r.map fun d => (d / 2 ^ h) &&& m) + ((d / 2 ^ h) &&& m)
    rw [e2, bc_and hlt2 hm8, ih]
    congr 1
    have := bc_and (k := 8 - h) (a := d / 2 ^ h) (b := bcv r % 2 ^ h) (m := m) (M := 0) hlt hm
    rw [Nat.mul_zero, Nat.zero_add, Nat.and_zero, Nat.mul_zero, Nat.zero_add] at this
    exact this
theorem bc_list {n : Nat} (hn : n < 2 ^ 64) : ∃ a b c d e f g h, (a < 256 ∧ b < 256 ∧ c < 256 ∧ d < 256 ∧ e < 256 ∧ f < 256 ∧ g < 256 ∧ h < 256) ∧ n = bcv [a, b, c, d, e, f, g, h] := by
  refine ⟨n % 256, n / 2 ^ 8 % 256, n / 2 ^ 16 % 256, n / 2 ^ 24 % 256, n / 2 ^ 32 % 256, n / 2 ^ 40 % 256, n / 2 ^ 48 % 256, n / 2 ^ 56 % 256, by omega, ?_⟩
  simp only [bcv]
  omega
/-- the bits of a byte, as they are summed -/
def bc1 (d : Nat) : Nat := d - ((d / 2 ^ 1) &&& 0x55)
def bc2 (d : Nat) : Nat := (bc1 d &&& 0x33) + ((bc1 d / 2 ^ 2) &&& 0x33)
def bc3 (d : Nat) : Nat := (bc2 d + bc2 d / 16) &&& 15
theorem bc_byte : ∀ d, d < 256 → ((d / 2 ^ 1) &&& 0x55 ≤ d ∧ bc1 d < 256) ∧ (bc2 d % 16 ≤ 4 ∧ bc2 d / 16 ≤ 4) ∧ bc3 d = bc2 d % 16 + bc2 d / 16 ∧ bc3 d = fb_ct (fun j => d.testBit j) 8 := by decide +kernel
theorem bc_sum (a b c d e f g h : Nat) (ha : a ≤ 8) (hb : b ≤ 8) (hc : c ≤ 8) (hd : d ≤ 8) (he : e ≤ 8) (hf : f ≤ 8) (hg : g ≤ 8) (hh : h ≤ 8) :
    bcv [a, b, c, d, e, f, g, h] < 2 ^ 64 ∧ bcv [a, b, c, d, e, f, g, h] + bcv [a, b, c, d, e, f, g, h] / 2 ^ 8 < 2 ^ 64 ∧ bcv [a, b, c, d, e, f, g, h] + bcv [a, b, c, d, e, f, g, h] / 2 ^ 8 + (bcv [a, b, c, d, e, f, g, h] + bcv [a, b, c, d, e, f, g, h] / 2 ^ 8) / 2 ^ 16 < 2 ^ 64 ∧
      (bcv [a, b, c, d, e, f, g, h] + bcv [a, b, c, d, e, f, g, h] / 2 ^ 8 + (bcv [a, b, c, d, e, f, g, h] + bcv [a, b, c, d, e, f, g, h] / 2 ^ 8) / 2 ^ 16 + (bcv [a, b, c, d, e, f, g, h] + bcv [a, b, c, d, e, f, g, h] / 2 ^ 8 + (bcv [a, b, c, d, e, f, g, h] + bcv [a, b, c, d, e, f, g, h] / 2 ^ 8) / 2 ^ 16) / 2 ^ 32) % 128 = a + b + c + d + e + f + g + h := by
  have e0 : bcv [a, b, c, d, e, f, g, h] < 2 ^ 64 := by simp only [bcv]; omega
  have e1 : bcv [a, b, c, d, e, f, g, h] + bcv [a, b, c, d, e, f, g, h] / 2 ^ 8 = bcv [a + b, b + c, c + d, d + e, e + f, f + g, g + h, h] := by simp only [bcv]; omega
  have e2 : bcv [a + b, b + c, c + d, d + e, e + f, f + g, g + h, h] + bcv [a + b, b + c, c + d, d + e, e + f, f + g, g + h, h] / 2 ^ 16 = bcv [a + b + (c + d), b + c + (d + e), c + d + (e + f), d + e + (f + g), e + f + (g + h), f + g + h, g + h, h] := by simp only [bcv]; omega
  rw [e1, e2]
  generalize hA : a + b + (c + d) = A
  generalize hB : b + c + (d + e) = B
  generalize hC : c + d + (e + f) = C
  generalize hD : d + e + (f + g) = D
  generalize hE : e + f + (g + h) = E
  generalize hF : f + g + h = F
  generalize hG : g + h = G
  refine ⟨e0, by simp only [bcv]; omega, by simp only [bcv]; omega, ?_⟩
  have e3 : bcv [A, B, C, D, E, F, G, h] + bcv [A, B, C, D, E, F, G, h] / 2 ^ 32 = bcv [A + E, B + F, C + G, D + h, E, F, G, h] := by simp only [bcv]; omega
  rw [e3]
  simp only [bcv]
  omega
theorem bc_total {n : Nat} (hn : n < 2 ^ 64) : ∃ x1 x2 x3 x4 x5 : Nat, x1 = n - ((n / 2 ^ 1) &&& 6148914691236517205) ∧ (n / 2 ^ 1) &&& 6148914691236517205 ≤ n ∧ x2 = (x1 &&& 3689348814741910323) + ((x1 / 2 ^ 2) &&& 3689348814741910323) ∧ x3 = (x2 + x2 / 2 ^ 4) &&& 1085102592571150095 ∧ x4 = x3 + x3 / 2 ^ 8 ∧ x5 = x4 + x4 / 2 ^ 16 ∧
    x1 < 2 ^ 64 ∧ x2 + x2 / 2 ^ 4 < 2 ^ 64 ∧ x2 < 2 ^ 64 ∧ x3 < 2 ^ 64 ∧ x4 < 2 ^ 64 ∧ x5 < 2 ^ 64 ∧ (x5 + x5 / 2 ^ 32) % 128 = fb_ct (fun j => n.testBit j) 64 := by
  obtain ⟨a, b, c, d, e, f, g, h, hall, rfl⟩ := bc_list hn
  have hL : ∀ x ∈ [a, b, c, d, e, f, g, h], x < 256 := by
    intro x hx
    simp only [List.mem_cons, List.not_mem_nil, or_false] at hx
    omega
  have m5 : 6148914691236517205 = bcv ([a, b, c, d, e, f, g, h].map fun _ => 0x55) := by simp [bcv]
  have s1 := bc_shr (h := 1) (m := 0x55) (by decide) (by decide) _ hL
  rw [← m5] at s1
  obtain ⟨ha, hb, hc, hd, he, hf, hg, hh⟩ := hall
  have B : ∀ x, x < 256 → ((x / 2 ^ 1) &&& 0x55 ≤ x ∧ bc1 x < 256) ∧ (bc2 x % 16 ≤ 4 ∧ bc2 x / 16 ≤ 4) ∧ bc3 x = bc2 x % 16 + bc2 x / 16 ∧ bc3 x = fb_ct (fun j => x.testBit j) 8 := bc_byte
  have e1 : bcv [a, b, c, d, e, f, g, h] - (bcv [a, b, c, d, e, f, g, h] / 2 ^ 1 &&& 6148914691236517205) = bcv ([a, b, c, d, e, f, g, h].map bc1) ∧ (bcv [a, b, c, d, e, f, g, h] / 2 ^ 1 &&& 6148914691236517205) ≤ bcv [a, b, c, d, e, f, g, h] := by
    rw [s1]
    simp only [bcv, List.map_cons, List.map_nil, bc1]
    have h1 := (B a ha).1.1; have h2 := (B b hb).1.1; have h3 := (B c hc).1.1; have h4 := (B d hd).1.1
    have h5 := (B e he).1.1; have h6 := (B f hf).1.1; have h7 := (B g hg).1.1; have h8 := (B h hh).1.1
    omega
  have hL1 : ∀ x ∈ [a, b, c, d, e, f, g, h].map bc1, x < 256 := by
    intro x hx
    obtain ⟨z, hz, rfl⟩ := List.mem_map.mp hx
    exact (B z (hL z hz)).1.2
  have m3 : 3689348814741910323 = bcv (([a, b, c, d, e, f, g, h].map bc1).map fun _ => 0x33) := by simp [bcv]
  have s2 := bc_shr (h := 0) (m := 0x33) (by decide) (by decide) _ hL1
  have s3 := bc_shr (h := 2) (m := 0x33) (by decide) (by decide) _ hL1
  rw [← m3] at s2 s3
  rw [Nat.pow_zero, Nat.div_one] at s2
  have e2 : (bcv ([a, b, c, d, e, f, g, h].map bc1) &&& 3689348814741910323) + (bcv ([a, b, c, d, e, f, g, h].map bc1) / 2 ^ 2 &&& 3689348814741910323) = bcv ([a, b, c, d, e, f, g, h].map bc2) := by
    rw [s2, s3]
    simp only [bcv, List.map_cons, List.map_nil, bc2, Nat.pow_zero, Nat.div_one]
    omega
  have q1 := (B a ha).2; have q2 := (B b hb).2; have q3 := (B c hc).2; have q4 := (B d hd).2
  have q5 := (B e he).2; have q6 := (B f hf).2; have q7 := (B g hg).2; have q8 := (B h hh).2
  have e3 : bcv ([a, b, c, d, e, f, g, h].map bc2) + bcv ([a, b, c, d, e, f, g, h].map bc2) / 2 ^ 4 = bcv [bc2 a + bc2 a / 16 + 16 * (bc2 b % 16), bc2 b + bc2 b / 16 + 16 * (bc2 c % 16), bc2 c + bc2 c / 16 + 16 * (bc2 d % 16), bc2 d + bc2 d / 16 + 16 * (bc2 e % 16), bc2 e + bc2 e / 16 + 16 * (bc2 f % 16), bc2 f + bc2 f / 16 + 16 * (bc2 g % 16), bc2 g + bc2 g / 16 + 16 * (bc2 h % 16), bc2 h + bc2 h / 16] := by
    simp only [bcv, List.map_cons, List.map_nil]
    omega
  have m15 : 1085102592571150095 = bcv ([bc2 a + bc2 a / 16 + 16 * (bc2 b % 16), bc2 b + bc2 b / 16 + 16 * (bc2 c % 16), bc2 c + bc2 c / 16 + 16 * (bc2 d % 16), bc2 d + bc2 d / 16 + 16 * (bc2 e % 16), bc2 e + bc2 e / 16 + 16 * (bc2 f % 16), bc2 f + bc2 f / 16 + 16 * (bc2 g % 16), bc2 g + bc2 g / 16 + 16 * (bc2 h % 16), bc2 h + bc2 h / 16].map fun _ => 15) := by simp [bcv]
  have s4 := bc_shr (h := 0) (m := 15) (by decide) (by decide) [bc2 a + bc2 a / 16 + 16 * (bc2 b % 16), bc2 b + bc2 b / 16 + 16 * (bc2 c % 16), bc2 c + bc2 c / 16 + 16 * (bc2 d % 16), bc2 d + bc2 d / 16 + 16 * (bc2 e % 16), bc2 e + bc2 e / 16 + 16 * (bc2 f % 16), bc2 f + bc2 f / 16 + 16 * (bc2 g % 16), bc2 g + bc2 g / 16 + 16 * (bc2 h % 16), bc2 h + bc2 h / 16] (by
    intro x hx
    simp only [List.mem_cons, List.not_mem_nil, or_false] at hx
    omega)
  rw [← m15] at s4
  have low : ∀ u w : Nat, (u + 16 * w) &&& 15 = u &&& 15 := fun u w => by
    rw [show (15 : Nat) = 2 ^ 4 - 1 by rfl, Nat.and_two_pow_sub_one_eq_mod, Nat.and_two_pow_sub_one_eq_mod]; omega
  have e4 : (bcv ([a, b, c, d, e, f, g, h].map bc2) + bcv ([a, b, c, d, e, f, g, h].map bc2) / 2 ^ 4) &&& 1085102592571150095 = bcv ([a, b, c, d, e, f, g, h].map bc3) := by
    rw [e3]
    rw [Nat.pow_zero, Nat.div_one] at s4
    rw [s4]
    simp only [List.map_cons, List.map_nil, Nat.pow_zero, Nat.div_one, low, bc3]
  refine ⟨_, _, _, _, _, rfl, e1.2, rfl, rfl, rfl, rfl, ?_⟩
  rw [e1.1, e2, e4]
  have t : fb_ct (fun j => (bcv [a, b, c, d, e, f, g, h]).testBit j) 64 = bc3 a + bc3 b + bc3 c + bc3 d + bc3 e + bc3 f + bc3 g + bc3 h := by
    have tb : ∀ (i : Nat) (z : Nat) (q : Nat), q = bcv [a, b, c, d, e, f, g, h] / 2 ^ (8 * i) % 256 → z = q → fb_ct (fun j => (bcv [a, b, c, d, e, f, g, h]).testBit (8 * i + j)) 8 = fb_ct (fun j => z.testBit j) 8 := by
      intro i z q hq hz
      refine fb_ct_cong fun j hj => ?_
      rw [hz, hq, show (256 : Nat) = 2 ^ 8 by rfl, Nat.testBit_mod_two_pow, ← Nat.shiftRight_eq_div_pow, Nat.testBit_shiftRight]
      simp [hj]
    have hs := fb_ct_split (fun j => (bcv [a, b, c, d, e, f, g, h]).testBit j)
    rw [show (64 : Nat) = 56 + 8 by rfl, hs 56 8, show (56 : Nat) = 48 + 8 by rfl, hs 48 8, show (48 : Nat) = 40 + 8 by rfl, hs 40 8, show (40 : Nat) = 32 + 8 by rfl, hs 32 8, show (32 : Nat) = 24 + 8 by rfl, hs 24 8, show (24 : Nat) = 16 + 8 by rfl, hs 16 8, show (16 : Nat) = 8 + 8 by rfl, hs 8 8]
    have r0 := tb 0 a _ rfl (by simp only [bcv]; omega)
    have r1 := tb 1 b _ rfl (by simp only [bcv]; omega)
    have r2 := tb 2 c _ rfl (by simp only [bcv]; omega)
    have r3 := tb 3 d _ rfl (by simp only [bcv]; omega)
    have r4 := tb 4 e _ rfl (by simp only [bcv]; omega)
    have r5 := tb 5 f _ rfl (by simp only [bcv]; omega)
    have r6 := tb 6 g _ rfl (by simp only [bcv]; omega)
    have r7 := tb 7 h _ rfl (by simp only [bcv]; omega)
    simp only [Nat.mul_zero, Nat.zero_add, Nat.reduceMul] at r0 r1 r2 r3 r4 r5 r6 r7
    simp only [Nat.reduceAdd]
    rw [r0, r1, r2, r3, r4, r5, r6, r7, ← q1.2.2, ← q2.2.2, ← q3.2.2, ← q4.2.2, ← q5.2.2, ← q6.2.2, ← q7.2.2, ← q8.2.2]
  rw [t]
  have w1 := (B a ha).1.2; have w2 := (B b hb).1.2; have w3 := (B c hc).1.2; have w4 := (B d hd).1.2
  have w5 := (B e he).1.2; have w6 := (B f hf).1.2; have w7 := (B g hg).1.2; have w8 := (B h hh).1.2
  simp only [List.map_cons, List.map_nil]
  have b1 : bcv [bc1 a, bc1 b, bc1 c, bc1 d, bc1 e, bc1 f, bc1 g, bc1 h] < 2 ^ 64 := by
    have h1 := (B a ha).1.2; have h2 := (B b hb).1.2; have h3 := (B c hc).1.2; have h4 := (B d hd).1.2
    have h5 := (B e he).1.2; have h6 := (B f hf).1.2; have h7 := (B g hg).1.2; have h8 := (B h hh).1.2
    simp only [bcv]
    omega
  have b2 : bcv [bc2 a, bc2 b, bc2 c, bc2 d, bc2 e, bc2 f, bc2 g, bc2 h] < 2 ^ 63 := by
    simp only [bcv]
    omega
  have b3 := bc_sum (bc3 a) (bc3 b) (bc3 c) (bc3 d) (bc3 e) (bc3 f) (bc3 g) (bc3 h) (by omega) (by omega) (by omega) (by omega) (by omega) (by omega) (by omega) (by omega)
  exact ⟨b1, by omega, by omega, b3.1, b3.2.1, b3.2.2.1, b3.2.2.2⟩
