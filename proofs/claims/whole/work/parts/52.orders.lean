/-! turns: orders of the ways -/
/-- at most as many, where each has a partner of its own -/
theorem fb_inj_le {p q : Nat → Bool} {N M : Nat} (f : Nat → Nat) (h : ∀ i, i < N → p i = true → f i < M ∧ q (f i) = true) (hi : ∀ i j, i < N → j < N → p i = true → p j = true → f i = f j → i = j) : fb_ct p N ≤ fb_ct q M := by
  have hk : ∀ a, ∃ i, a < fb_ct p N → i < N ∧ p i = true ∧ fb_ct p i = a := by
    intro a
    by_cases ha : a < fb_ct p N
    · obtain ⟨i, h1⟩ := fb_ct_kth ha
      exact ⟨i, fun _ => h1⟩
    · exact ⟨0, fun h => absurd h ha⟩
  obtain ⟨g, hg⟩ : ∃ g : Nat → Nat, ∀ a, a < fb_ct p N → g a < N ∧ p (g a) = true ∧ fb_ct p (g a) = a := ⟨fun a => Classical.choose (hk a), fun a => Classical.choose_spec (hk a)⟩
  refine fb_holes (fb_ct q M) (fb_ct p N) (fun a => fb_ct q (f (g a))) (fun a ha => ?_) (fun a b hab hb e => ?_)
  · obtain ⟨h1, h2, h3⟩ := hg a ha
    obtain ⟨h4, h5⟩ := h _ h1 h2
    have := fb_ct_mono q (show f (g a) + 1 ≤ M from h4)
    rw [fb_ct_succ, h5] at this
    simp at this
    show fb_ct q (f (g a)) < fb_ct q M
    omega
  · obtain ⟨h1, h2, h3⟩ := hg a (by omega)
    obtain ⟨k1, k2, k3⟩ := hg b hb
    have e2 := fb_ct_kth_one (h _ h1 h2).2 (h _ k1 k2).2 e
    have e3 := hi _ _ h1 k1 h2 k2 e2
    rw [e3] at h3
    omega
theorem fb_inj_eq {p q : Nat → Bool} {N M : Nat} (f g : Nat → Nat) (h : ∀ i, i < N → p i = true → f i < M ∧ q (f i) = true) (hi : ∀ i j, i < N → j < N → p i = true → p j = true → f i = f j → i = j) (h2 : ∀ i, i < M → q i = true → g i < N ∧ p (g i) = true) (hi2 : ∀ i j, i < M → j < M → q i = true → q j = true → g i = g j → i = j) : fb_ct p N = fb_ct q M :=
  Nat.le_antisymm (fb_inj_le f h hi) (fb_inj_le g h2 hi2)
/-- the bits of d in another order -/
def ztu (f : Nat → Nat) (d : Nat) : Nat → Nat
  | 0 => 0
  | n + 1 => 2 ^ n * (d.testBit (f n)).toNat + ztu f d n
def ztau (f : Nat → Nat) (d : Nat) : Nat := ztu f d 6
theorem ztu_lt (f : Nat → Nat) (d : Nat) : ∀ n, ztu f d n < 2 ^ n
  | 0 => by show 0 < 1; decide
  | n + 1 => by
    have := ztu_lt f d n
    show 2 ^ n * (d.testBit (f n)).toNat + ztu f d n < 2 ^ (n + 1)
    rw [Nat.pow_succ]
    cases d.testBit (f n) <;> simp <;> omega
theorem ztu_bit (f : Nat → Nat) (d : Nat) : ∀ n j, (ztu f d n).testBit j = (decide (j < n) && d.testBit (f j))
  | 0, j => by show Nat.testBit 0 j = _; simp
  | n + 1, j => by
    show (2 ^ n * (d.testBit (f n)).toNat + ztu f d n).testBit j = _
    rw [Nat.testBit_two_pow_mul_add _ (ztu_lt f d n), ztu_bit f d n j]
    by_cases h : j < n
    · have h2 : j < n + 1 := by omega
      simp [h, h2]
    · rw [if_neg h]
      by_cases h2 : j = n
      · subst h2
        rw [Nat.sub_self]
        cases d.testBit (f j) <;> simp
      · have h3 : ¬ j < n + 1 := by omega
        obtain ⟨m, hm⟩ : ∃ m, j - n = m + 1 := ⟨j - n - 1, by omega⟩
        rw [hm, decide_eq_false h3, Bool.false_and]
        cases d.testBit (f n)
        · simp
        · simp [Nat.testBit_succ]
theorem ztau_lt (f : Nat → Nat) (d : Nat) : ztau f d < 64 := ztu_lt f d 6
theorem ztau_bit (f : Nat → Nat) (d j : Nat) : (ztau f d).testBit j = (decide (j < 6) && d.testBit (f j)) := ztu_bit f d 6 j
theorem z_bits6 {a b : Nat} (ha : a < 64) (hb : b < 64) (h : ∀ j, j < 6 → a.testBit j = b.testBit j) : a = b := by
  apply Nat.eq_of_testBit_eq
  intro j
  by_cases hj : j < 6
  · exact h j hj
  · have h64 : 64 ≤ 2 ^ j := by
      have : 2 ^ 6 ≤ 2 ^ j := Nat.pow_le_pow_right (by decide) (by omega)
      exact this
    rw [Nat.testBit_lt_two_pow (by omega), Nat.testBit_lt_two_pow (by omega)]
theorem ztau_cong {f g : Nat → Nat} {d : Nat} (h : ∀ j, j < 6 → f j = g j) : ztau f d = ztau g d := z_bits6 (ztau_lt _ _) (ztau_lt _ _) (fun j hj => by rw [ztau_bit, ztau_bit, h j hj])
/-- one order undone by another -/
theorem ztau_inv {f g : Nat → Nat} {d : Nat} (hd : d < 64) (h : ∀ j, j < 6 → g (f j) = j ∧ f j < 6) : ztau f (ztau g d) = d := z_bits6 (ztau_lt _ _) hd (fun j hj => by
  have ⟨h1, h2⟩ := h j hj
  rw [ztau_bit, ztau_bit, h1, decide_eq_true hj, decide_eq_true h2]
  rfl)
theorem ztau_0 (f : Nat → Nat) : ztau f 0 = 0 := z_bits6 (ztau_lt _ _) (by decide) (fun j hj => by rw [ztau_bit, Nat.zero_testBit, Nat.zero_testBit, Bool.and_false])
/-- how often an order makes the set itself, as the reference counts -/
def zgt (n : Nat) (c : Nat → Nat) (P : Nat → Bool) (g : Nat → Nat) : Nat := fb_ct (fun t => zga (fun i => P (ztau g (c i) ^^^ c t)) n) n
/-- .. and as the class does -/
def zgx (D : Nat) (P : Nat → Bool) (f : Nat → Nat) : Nat := fb_ct (fun x => zga (fun d => P (ztau f d) == P (d ^^^ x)) 64) (2 ^ D)
theorem zx_self {a b : Nat} : a ^^^ b ^^^ b = a := by rw [Nat.xor_assoc, Nat.xor_self, Nat.xor_zero]
theorem zgx_eq {D n : Nat} {c f g : Nat → Nat} {P : Nat → Bool} (hD : D ≤ 6) (hn : 0 < n) (h0 : c 0 = 0) (hc : ∀ i, i < n → c i < 2 ^ D) (hdist : ∀ i j, i < n → j < n → c i = c j → i = j) (hP : ∀ d, P d = true ↔ ∃ i, i < n ∧ c i = d)
    (hfg : ∀ j, j < 6 → g (f j) = j ∧ f j < 6) (hgf : ∀ j, j < 6 → f (g j) = j ∧ g j < 6) : zgx D P f = zgt n c P g := by
  have h64 : 2 ^ D ≤ 64 := (Nat.pow_le_pow_right (by decide) hD : 2 ^ D ≤ 2 ^ 6)
  have hc6 : ∀ i, i < n → c i < 64 := fun i hi => Nat.lt_of_lt_of_le (hc i hi) h64
  have P0 : P 0 = true := (hP 0).mpr ⟨0, hn, h0⟩
  -- one x
  have one : ∀ x, x < 64 → ((∀ d, d < 64 → (P (ztau f d) == P (d ^^^ x)) = true) ↔ (P x = true ∧ ∀ i, i < n → P (ztau g (c i) ^^^ x) = true)) := by
    intro x hx
    constructor
    · intro h
      refine ⟨?_, fun i hi => ?_⟩
      · have := h 0 (by decide)
        rw [ztau_0, P0, Nat.zero_xor, beq_iff_eq] at this
        exact this.symm
      · have := h (ztau g (c i)) (ztau_lt _ _)
        rw [ztau_inv (hc6 i hi) hfg, beq_iff_eq, (hP (c i)).mpr ⟨i, hi, rfl⟩] at this
        exact this.symm
    · rintro ⟨-, h2⟩
      have sub : ∀ d, d < 64 → P (ztau f d) = true → P (d ^^^ x) = true := by
        intro d hd h3
        obtain ⟨i, hi, e⟩ := (hP _).mp h3
        have := h2 i hi
        rw [e, ztau_inv hd hgf] at this
        exact this
      have e1 : fb_ct (fun d => P (ztau f d)) 64 = fb_ct P 64 := fb_inj_eq (ztau f) (ztau g) (fun i _ h => ⟨ztau_lt _ _, h⟩) (fun i j hi hj _ _ e => by
          rw [← ztau_inv hi hgf, e, ztau_inv hj hgf]) (fun i hi h => ⟨ztau_lt _ _, by
          show P (ztau f (ztau g i)) = true
          rw [ztau_inv hi hfg]; exact h⟩) (fun i j hi hj _ _ e => by
          rw [← ztau_inv hi hfg, e, ztau_inv hj hfg])
      have xinj : ∀ i j : Nat, i ^^^ x = j ^^^ x → i = j := fun i j e => by
        have := congrArg (· ^^^ x) e
        simp only [zx_self] at this
        exact this
      have e2 : fb_ct (fun d => P (d ^^^ x)) 64 = fb_ct P 64 := fb_inj_eq (· ^^^ x) (· ^^^ x) (fun i hi h => ⟨zx_lt hi hx, h⟩) (fun i j _ _ _ _ e => xinj i j e) (fun i hi h => ⟨zx_lt hi hx, by
          show P (i ^^^ x ^^^ x) = true
          rw [zx_self]; exact h⟩) (fun i j _ _ _ _ e => xinj i j e)
      intro d hd
      rw [beq_iff_eq]
      cases h4 : P (d ^^^ x) with
      | false =>
        cases h5 : P (ztau f d) with
        | false => rfl
        | true => rw [sub d hd h5] at h4; cases h4
      | true =>
        cases h5 : P (ztau f d) with
        | true => rfl
        | false =>
          have e3 : fb_ct (fun k => if k = d then true else P (ztau f k)) 64 ≤ fb_ct (fun d => P (d ^^^ x)) 64 := fb_ct_sub (fun k hk h => by
            by_cases e : k = d
            · rw [e]; exact h4
            · rw [if_neg e] at h
              exact sub k hk h)
          have e4 := fb_ct_upd (fun d => P (ztau f d)) true (i := d) (n := 64) hd
          rw [h5] at e4
          simp only [Bool.false_eq_true, if_false, if_true, Nat.add_zero] at e4
          omega
  unfold zgx zgt
  have hidx : ∀ x, ∃ i, P x = true → i < n ∧ c i = x := by
    intro x
    by_cases h : P x = true
    · obtain ⟨i, hi⟩ := (hP x).mp h
      exact ⟨i, fun _ => hi⟩
    · exact ⟨0, fun q => absurd q h⟩
  obtain ⟨ix, hix⟩ : ∃ ix : Nat → Nat, ∀ x, P x = true → ix x < n ∧ c (ix x) = x := ⟨fun x => Classical.choose (hidx x), fun x => Classical.choose_spec (hidx x)⟩
  refine fb_inj_eq ix c (fun x hx h => ?_) (fun x y hx hy h1 h2 e => ?_) (fun t ht h => ?_) (fun t u ht hu _ _ e => hdist t u ht hu e)
  · have h := (one x (by omega)).mp (fun d hd => zga_iff.mp h d hd)
    have h3 := hix x h.1
    refine ⟨h3.1, zga_iff.mpr (fun i hi => ?_)⟩
    rw [h3.2]
    exact h.2 i hi
  · have h1 := (one x (by omega)).mp (fun d hd => zga_iff.mp h1 d hd)
    have h2 := (one y (by omega)).mp (fun d hd => zga_iff.mp h2 d hd)
    rw [← (hix x h1.1).2, e, (hix y h2.1).2]
  · refine ⟨hc t ht, zga_iff.mpr (fun d hd => ?_)⟩
    exact (one (c t) (hc6 t ht)).mpr ⟨(hP _).mpr ⟨t, ht, rfl⟩, fun i hi => zga_iff.mp h i hi⟩ d hd
/-! all orders, written out -/
def zp1 : List Nat := [0x543210]
def zp2 : List Nat := [0x543210, 0x543201]
def zp3 : List Nat := [0x543210, 0x543120, 0x543201, 0x543021, 0x543102, 0x543012]
def zp4 : List Nat := [0x543210, 0x542310, 0x543120, 0x541320, 0x542130, 0x541230, 0x543201, 0x542301, 0x543021, 0x540321, 0x542031, 0x540231, 0x543102, 0x541302, 0x543012, 0x540312, 0x541032, 0x540132, 0x542103, 0x541203, 0x542013, 0x540213, 0x541023, 0x540123]
def zp5 : List Nat := [0x543210, 0x534210, 0x542310, 0x524310, 0x532410, 0x523410, 0x543120, 0x534120, 0x541320, 0x514320, 0x531420, 0x513420, 0x542130, 0x524130, 0x541230, 0x514230, 0x521430, 0x512430, 0x532140, 0x523140, 0x531240, 0x513240, 0x521340, 0x512340, 0x543201, 0x534201, 0x542301, 0x524301, 0x532401, 0x523401, 0x543021, 0x534021, 0x540321, 0x504321, 0x530421, 0x503421, 0x542031, 0x524031, 0x540231, 0x504231, 0x520431, 0x502431, 0x532041, 0x523041, 0x530241, 0x503241, 0x520341, 0x502341, 0x543102, 0x534102, 0x541302, 0x514302, 0x531402, 0x513402, 0x543012, 0x534012, 0x540312, 0x504312, 0x530412, 0x503412, 0x541032, 0x514032, 0x540132, 0x504132, 0x510432, 0x501432, 0x531042, 0x513042, 0x530142, 0x503142, 0x510342, 0x501342, 0x542103, 0x524103, 0x541203, 0x514203, 0x521403, 0x512403, 0x542013, 0x524013, 0x540213, 0x504213, 0x520413, 0x502413, 0x541023, 0x514023, 0x540123, 0x504123, 0x510423, 0x501423, 0x521043, 0x512043, 0x520143, 0x502143, 0x510243, 0x501243, 0x532104, 0x523104, 0x531204, 0x513204, 0x521304, 0x512304, 0x532014, 0x523014, 0x530214, 0x503214, 0x520314, 0x502314, 0x531024, 0x513024, 0x530124, 0x503124, 0x510324, 0x501324, 0x521034, 0x512034, 0x520134, 0x502134, 0x510234, 0x501234]
def zp6 : List Nat := [0x543210, 0x453210, 0x534210, 0x354210, 0x435210, 0x345210, 0x542310, 0x452310, 0x524310, 0x254310, 0x425310, 0x245310, 0x532410, 0x352410, 0x523410, 0x253410, 0x325410, 0x235410, 0x432510, 0x342510, 0x423510, 0x243510, 0x324510, 0x234510, 0x543120, 0x453120, 0x534120, 0x354120, 0x435120, 0x345120, 0x541320, 0x451320, 0x514320, 0x154320, 0x415320, 0x145320, 0x531420, 0x351420, 0x513420, 0x153420, 0x315420, 0x135420, 0x431520, 0x341520, 0x413520, 0x143520, 0x314520, 0x134520, 0x542130, 0x452130, 0x524130, 0x254130, 0x425130, 0x245130, 0x541230, 0x451230, 0x514230, 0x154230, 0x415230, 0x145230, 0x521430, 0x251430, 0x512430, 0x152430, 0x215430, 0x125430, 0x421530, 0x241530, 0x412530, 0x142530, 0x214530, 0x124530, 0x532140, 0x352140, 0x523140, 0x253140, 0x325140, 0x235140, 0x531240, 0x351240, 0x513240, 0x153240, 0x315240, 0x135240, 0x521340, 0x251340, 0x512340, 0x152340, 0x215340, 0x125340, 0x321540, 0x231540, 0x312540, 0x132540, 0x213540, 0x123540, 0x432150, 0x342150, 0x423150, 0x243150, 0x324150, 0x234150, 0x431250, 0x341250, 0x413250, 0x143250, 0x314250, 0x134250, 0x421350, 0x241350, 0x412350, 0x142350, 0x214350, 0x124350, 0x321450, 0x231450, 0x312450, 0x132450, 0x213450, 0x123450, 0x543201, 0x453201, 0x534201, 0x354201, 0x435201, 0x345201, 0x542301, 0x452301, 0x524301, 0x254301, 0x425301, 0x245301, 0x532401, 0x352401, 0x523401, 0x253401, 0x325401, 0x235401, 0x432501, 0x342501, 0x423501, 0x243501, 0x324501, 0x234501, 0x543021, 0x453021, 0x534021, 0x354021, 0x435021, 0x345021, 0x540321, 0x450321, 0x504321, 0x054321, 0x405321, 0x045321, 0x530421, 0x350421, 0x503421, 0x053421, 0x305421, 0x035421, 0x430521, 0x340521, 0x403521, 0x043521, 0x304521, 0x034521, 0x542031, 0x452031, 0x524031, 0x254031, 0x425031, 0x245031, 0x540231, 0x450231, 0x504231, 0x054231, 0x405231, 0x045231, 0x520431, 0x250431, 0x502431, 0x052431, 0x205431, 0x025431, 0x420531, 0x240531, 0x402531, 0x042531, 0x204531, 0x024531, 0x532041, 0x352041, 0x523041, 0x253041, 0x325041, 0x235041, 0x530241, 0x350241, 0x503241, 0x053241, 0x305241, 0x035241, 0x520341, 0x250341, 0x502341, 0x052341, 0x205341, 0x025341, 0x320541, 0x230541, 0x302541, 0x032541, 0x203541, 0x023541, 0x432051, 0x342051, 0x423051, 0x243051, 0x324051, 0x234051, 0x430251, 0x340251, 0x403251, 0x043251, 0x304251, 0x034251, 0x420351, 0x240351, 0x402351, 0x042351, 0x204351, 0x024351, 0x320451, 0x230451, 0x302451, 0x032451, 0x203451, 0x023451, 0x543102, 0x453102, 0x534102, 0x354102, 0x435102, 0x345102, 0x541302, 0x451302, 0x514302, 0x154302, 0x415302, 0x145302, 0x531402, 0x351402, 0x513402, 0x153402, 0x315402, 0x135402, 0x431502, 0x341502, 0x413502, 0x143502, 0x314502, 0x134502, 0x543012, 0x453012, 0x534012, 0x354012, 0x435012, 0x345012, 0x540312, 0x450312, 0x504312, 0x054312, 0x405312, 0x045312, 0x530412, 0x350412, 0x503412, 0x053412, 0x305412, 0x035412, 0x430512, 0x340512, 0x403512, 0x043512, 0x304512, 0x034512, 0x541032, 0x451032, 0x514032, 0x154032, 0x415032, 0x145032, 0x540132, 0x450132, 0x504132, 0x054132, 0x405132, 0x045132, 0x510432, 0x150432, 0x501432, 0x051432, 0x105432, 0x015432, 0x410532, 0x140532, 0x401532, 0x041532, 0x104532, 0x014532, 0x531042, 0x351042, 0x513042, 0x153042, 0x315042, 0x135042, 0x530142, 0x350142, 0x503142, 0x053142, 0x305142, 0x035142, 0x510342, 0x150342, 0x501342, 0x051342, 0x105342, 0x015342, 0x310542, 0x130542, 0x301542, 0x031542, 0x103542, 0x013542, 0x431052, 0x341052, 0x413052, 0x143052, 0x314052, 0x134052, 0x430152, 0x340152, 0x403152, 0x043152, 0x304152, 0x034152, 0x410352, 0x140352, 0x401352, 0x041352, 0x104352, 0x014352, 0x310452, 0x130452, 0x301452, 0x031452, 0x103452, 0x013452, 0x542103, 0x452103, 0x524103, 0x254103, 0x425103, 0x245103, 0x541203, 0x451203, 0x514203, 0x154203, 0x415203, 0x145203, 0x521403, 0x251403, 0x512403, 0x152403, 0x215403, 0x125403, 0x421503, 0x241503, 0x412503, 0x142503, 0x214503, 0x124503, 0x542013, 0x452013, 0x524013, 0x254013, 0x425013, 0x245013, 0x540213, 0x450213, 0x504213, 0x054213, 0x405213, 0x045213, 0x520413, 0x250413, 0x502413, 0x052413, 0x205413, 0x025413, 0x420513, 0x240513, 0x402513, 0x042513, 0x204513, 0x024513, 0x541023, 0x451023, 0x514023, 0x154023, 0x415023, 0x145023, 0x540123, 0x450123, 0x504123, 0x054123, 0x405123, 0x045123, 0x510423, 0x150423, 0x501423, 0x051423, 0x105423, 0x015423, 0x410523, 0x140523, 0x401523, 0x041523, 0x104523, 0x014523, 0x521043, 0x251043, 0x512043, 0x152043, 0x215043, 0x125043, 0x520143, 0x250143, 0x502143, 0x052143, 0x205143, 0x025143, 0x510243, 0x150243, 0x501243, 0x051243, 0x105243, 0x015243, 0x210543, 0x120543, 0x201543, 0x021543, 0x102543, 0x012543, 0x421053, 0x241053, 0x412053, 0x142053, 0x214053, 0x124053, 0x420153, 0x240153, 0x402153, 0x042153, 0x204153, 0x024153, 0x410253, 0x140253, 0x401253, 0x041253, 0x104253, 0x014253, 0x210453, 0x120453, 0x201453, 0x021453, 0x102453, 0x012453, 0x532104, 0x352104, 0x523104, 0x253104, 0x325104, 0x235104, 0x531204, 0x351204, 0x513204, 0x153204, 0x315204, 0x135204, 0x521304, 0x251304, 0x512304, 0x152304, 0x215304, 0x125304, 0x321504, 0x231504, 0x312504, 0x132504, 0x213504, 0x123504, 0x532014, 0x352014, 0x523014, 0x253014, 0x325014, 0x235014, 0x530214, 0x350214, 0x503214, 0x053214, 0x305214, 0x035214, 0x520314, 0x250314, 0x502314, 0x052314, 0x205314, 0x025314, 0x320514, 0x230514, 0x302514, 0x032514, 0x203514, 0x023514, 0x531024, 0x351024, 0x513024, 0x153024, 0x315024, 0x135024, 0x530124, 0x350124, 0x503124, 0x053124, 0x305124, 0x035124, 0x510324, 0x150324, 0x501324, 0x051324, 0x105324, 0x015324, 0x310524, 0x130524, 0x301524, 0x031524, 0x103524, 0x013524, 0x521034, 0x251034, 0x512034, 0x152034, 0x215034, 0x125034, 0x520134, 0x250134, 0x502134, 0x052134, 0x205134, 0x025134, 0x510234, 0x150234, 0x501234, 0x051234, 0x105234, 0x015234, 0x210534, 0x120534, 0x201534, 0x021534, 0x102534, 0x012534, 0x321054, 0x231054, 0x312054, 0x132054, 0x213054, 0x123054, 0x320154, 0x230154, 0x302154, 0x032154, 0x203154, 0x023154, 0x310254, 0x130254, 0x301254, 0x031254, 0x103254, 0x013254, 0x210354, 0x120354, 0x201354, 0x021354, 0x102354, 0x012354, 0x432105, 0x342105, 0x423105, 0x243105, 0x324105, 0x234105, 0x431205, 0x341205, 0x413205, 0x143205, 0x314205, 0x134205, 0x421305, 0x241305, 0x412305, 0x142305, 0x214305, 0x124305, 0x321405, 0x231405, 0x312405, 0x132405, 0x213405, 0x123405, 0x432015, 0x342015, 0x423015, 0x243015, 0x324015, 0x234015, 0x430215, 0x340215, 0x403215, 0x043215, 0x304215, 0x034215, 0x420315, 0x240315, 0x402315, 0x042315, 0x204315, 0x024315, 0x320415, 0x230415, 0x302415, 0x032415, 0x203415, 0x023415, 0x431025, 0x341025, 0x413025, 0x143025, 0x314025, 0x134025, 0x430125, 0x340125, 0x403125, 0x043125, 0x304125, 0x034125, 0x410325, 0x140325, 0x401325, 0x041325, 0x104325, 0x014325, 0x310425, 0x130425, 0x301425, 0x031425, 0x103425, 0x013425, 0x421035, 0x241035, 0x412035, 0x142035, 0x214035, 0x124035, 0x420135, 0x240135, 0x402135, 0x042135, 0x204135, 0x024135, 0x410235, 0x140235, 0x401235, 0x041235, 0x104235, 0x014235, 0x210435, 0x120435, 0x201435, 0x021435, 0x102435, 0x012435, 0x321045, 0x231045, 0x312045, 0x132045, 0x213045, 0x123045, 0x320145, 0x230145, 0x302145, 0x032145, 0x203145, 0x023145, 0x310245, 0x130245, 0x301245, 0x031245, 0x103245, 0x013245, 0x210345, 0x120345, 0x201345, 0x021345, 0x102345, 0x012345]
def zpo (D : Nat) : List Nat := match D with
  | 1 => zp1
  | 2 => zp2
  | 3 => zp3
  | 4 => zp4
  | 5 => zp5
  | _ => zp6
def zdx (c j : Nat) : Nat := c / 16 ^ j % 16
def zinv (c b : Nat) : Nat := if zdx c 0 = b then 0 else if zdx c 1 = b then 1 else if zdx c 2 = b then 2 else if zdx c 3 = b then 3 else if zdx c 4 = b then 4 else 5
def zfac : Nat → Nat
  | 0 => 1
  | n + 1 => (n + 1) * zfac n
/-- the order of number k, as the class makes it -/
def zsw2 (a b j : Nat) : Nat := if j = a then b else if j = b then a else j
def zorl : Nat → Nat → List Nat → List Nat
  | 0, _, l => l
  | w + 1, r, l => zorl w (r / (w + 2)) (if r % (w + 2) < w + 1 then l.map (zsw2 (r % (w + 2)) (w + 1)) else l)
def zord (D k : Nat) : List Nat := zorl (D - 1) k [0, 1, 2, 3, 4, 5]
def zcd : List Nat → Nat
  | [] => 0
  | a :: l => a + 16 * zcd l
/-- the order behind an order, as the reference makes it -/
def zdn (f : Nat → Nat) : Nat → Nat
  | 0 => 0
  | m + 1 => if f (m + 1) < f m then zdn f m else m + 1
def zdj (f : Nat → Nat) (v : Nat) : Nat → Nat
  | 0 => 0
  | j + 1 => if f (j + 1) < v then zdj f v j else j + 1
def zrvs : Nat → Nat → Nat → (Nat → Nat) → Nat → Nat
  | 0, _, _, f => f
  | n + 1, a, b, f => if a < b then zrvs n (a + 1) (b - 1) (zup (zup f a (f b)) b (f a)) else f
def znx (D : Nat) (f : Nat → Nat) : Option (Nat → Nat) :=
  if zdn f (D - 1) = 0 then none
  else some (zrvs 6 (zdn f (D - 1)) (D - 1) (zup (zup f (zdn f (D - 1) - 1) (f (zdj f (f (zdn f (D - 1) - 1)) (D - 1)))) (zdj f (f (zdn f (D - 1) - 1)) (D - 1)) (f (zdn f (D - 1) - 1))))
def zchk (D : Nat) : List Nat → Bool
  | [] => false
  | [a] => (znx D (zdx a)).isNone
  | a :: b :: r => (match znx D (zdx a) with
    | none => false
    | some f => zga (fun j => f j == zdx b j) 6) && zchk D (b :: r)
theorem zpo_chk : ∀ D, D < 7 → 1 ≤ D → zchk D (zpo D) = true := by decide +kernel
theorem zpo_len : ∀ D, D < 7 → 1 ≤ D → (zpo D).length = zfac D := by decide +kernel
def zpk (D c : Nat) : Bool := zga (fun j => ((zinv c (zdx c j) == j) && decide (zdx c j < 6) && (zdx c (zinv c j) == j) && decide (zinv c j < 6)) && (if j < D then decide (zdx c j < D) else zdx c j == j)) 6
theorem zpo_k : ∀ D, D < 7 → 1 ≤ D → (zpo D).all (zpk D) = true := by decide +kernel
theorem zpo_ok (D : Nat) (h7 : D < 7) (h1 : 1 ≤ D) : ∀ c ∈ zpo D, ∀ j, j < 6 → zinv c (zdx c j) = j ∧ zdx c j < 6 ∧ zdx c (zinv c j) = j ∧ zinv c j < 6 ∧ (j < D → zdx c j < D) ∧ (D ≤ j → zdx c j = j) := by
  intro c hc j hj
  have h := zga_iff.mp (List.all_eq_true.mp (zpo_k D h7 h1) c hc) j hj
  simp only [Bool.and_eq_true, decide_eq_true_eq, beq_iff_eq] at h
  obtain ⟨⟨⟨⟨h2, h3⟩, h4⟩, h5⟩, h6⟩ := h
  refine ⟨h2, h3, h4, h5, fun hD => ?_, fun hD => ?_⟩
  · rw [if_pos hD, decide_eq_true_eq] at h6
    exact h6
  · rw [if_neg (by omega), beq_iff_eq] at h6
    exact h6
theorem zpo_0 : ∀ D, D < 7 → 1 ≤ D → ∀ j, j < 6 → zdx ((zpo D).getD 0 0) j = j := by decide +kernel
theorem zord_perm : ∀ D, D < 7 → 1 ≤ D → ((List.range (zfac D)).map (fun k => zcd (zord D k))).Perm (zpo D) := by decide +kernel
