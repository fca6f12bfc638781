/-! what stands in the world: references that never change; the laws of reading a changed world -/
section HL
variable (H : zHp) (o k a j : Nat)
theorem h_Fs (v : Value) : (zsF H o k v).1 o k = v := if_pos ⟨rfl, rfl⟩
theorem h_FF (v : Value) (h : ¬ (a = o ∧ j = k)) : (zsF H o k v).1 a j = H.1 a j := if_neg h
theorem h_FI (v : Value) : (zsF H o k v).2.1 = H.2.1 := rfl
theorem h_FL (v : Value) : (zsF H o k v).2.2 = H.2.2 := rfl
theorem h_Is (v : Int32) : (zsI H o k v).2.1 o k = v := if_pos ⟨rfl, rfl⟩
theorem h_II (v : Int32) (h : ¬ (a = o ∧ j = k)) : (zsI H o k v).2.1 a j = H.2.1 a j := if_neg h
theorem h_IF (v : Int32) : (zsI H o k v).1 = H.1 := rfl
theorem h_IL (v : Int32) : (zsI H o k v).2.2 = H.2.2 := rfl
theorem h_Ls (v : Int64) : (zsL H o k v).2.2 o k = v := if_pos ⟨rfl, rfl⟩
theorem h_LL (v : Int64) (h : ¬ (a = o ∧ j = k)) : (zsL H o k v).2.2 a j = H.2.2 a j := if_neg h
theorem h_LF (v : Int64) : (zsL H o k v).1 = H.1 := rfl
theorem h_LI (v : Int64) : (zsL H o k v).2.1 = H.2.1 := rfl
end HL
def zrl : List (Nat × Nat × Nat) := [(0, 0, 1), (0, 1, 3), (0, 2, 4), (0, 3, 6), (0, 4, 8), (0, 5, 10), (0, 6, 12), (0, 7, 14), (0, 12, 25), (1, 3, 2), (4, 0, 1), (4, 1, 5), (6, 0, 7), (8, 0, 9), (10, 2, 11), (12, 2, 13), (14, 0, 1), (14, 1, 15), (14, 2, 17), (14, 3, 18), (14, 4, 19), (14, 5, 20), (15, 2, 16), (21, 0, 22), (23, 0, 24), (50, 1, 51), (50, 5, 52), (50, 6, 53), (50, 7, 54), (50, 8, 55), (50, 10, 56), (50, 11, 57), (50, 12, 58), (50, 13, 59), (50, 14, 60), (50, 17, 61), (50, 18, 62), (50, 21, 63), (50, 23, 64), (3, 0, 26), (3, 1, 28), (3, 2, 30), (3, 3, 32), (3, 4, 34), (3, 5, 36), (3, 6, 38), (3, 7, 40), (3, 8, 42), (3, 9, 44), (3, 10, 46), (3, 11, 48), (26, 2, 27), (28, 2, 29), (30, 2, 31), (32, 2, 33), (34, 2, 35), (36, 2, 37), (38, 2, 39), (40, 2, 41), (42, 2, 43), (44, 2, 45), (46, 2, 47), (48, 2, 49)]
def zRf (H : zHp) : Prop := ∀ q ∈ zrl, H.1 q.1 q.2.1 = .ref q.2.2
theorem r_0_0 {H : zHp} (h : zRf H) : H.1 0 0 = .ref 1 := h (0, 0, 1) (by decide)
theorem r_0_1 {H : zHp} (h : zRf H) : H.1 0 1 = .ref 3 := h (0, 1, 3) (by decide)
theorem r_0_2 {H : zHp} (h : zRf H) : H.1 0 2 = .ref 4 := h (0, 2, 4) (by decide)
theorem r_0_3 {H : zHp} (h : zRf H) : H.1 0 3 = .ref 6 := h (0, 3, 6) (by decide)
theorem r_0_4 {H : zHp} (h : zRf H) : H.1 0 4 = .ref 8 := h (0, 4, 8) (by decide)
theorem r_0_5 {H : zHp} (h : zRf H) : H.1 0 5 = .ref 10 := h (0, 5, 10) (by decide)
theorem r_0_6 {H : zHp} (h : zRf H) : H.1 0 6 = .ref 12 := h (0, 6, 12) (by decide)
theorem r_0_7 {H : zHp} (h : zRf H) : H.1 0 7 = .ref 14 := h (0, 7, 14) (by decide)
theorem r_0_12 {H : zHp} (h : zRf H) : H.1 0 12 = .ref 25 := h (0, 12, 25) (by decide)
theorem r_1_3 {H : zHp} (h : zRf H) : H.1 1 3 = .ref 2 := h (1, 3, 2) (by decide)
theorem r_4_0 {H : zHp} (h : zRf H) : H.1 4 0 = .ref 1 := h (4, 0, 1) (by decide)
theorem r_4_1 {H : zHp} (h : zRf H) : H.1 4 1 = .ref 5 := h (4, 1, 5) (by decide)
theorem r_6_0 {H : zHp} (h : zRf H) : H.1 6 0 = .ref 7 := h (6, 0, 7) (by decide)
theorem r_8_0 {H : zHp} (h : zRf H) : H.1 8 0 = .ref 9 := h (8, 0, 9) (by decide)
theorem r_10_2 {H : zHp} (h : zRf H) : H.1 10 2 = .ref 11 := h (10, 2, 11) (by decide)
theorem r_12_2 {H : zHp} (h : zRf H) : H.1 12 2 = .ref 13 := h (12, 2, 13) (by decide)
theorem r_14_0 {H : zHp} (h : zRf H) : H.1 14 0 = .ref 1 := h (14, 0, 1) (by decide)
theorem r_14_1 {H : zHp} (h : zRf H) : H.1 14 1 = .ref 15 := h (14, 1, 15) (by decide)
theorem r_14_2 {H : zHp} (h : zRf H) : H.1 14 2 = .ref 17 := h (14, 2, 17) (by decide)
theorem r_14_3 {H : zHp} (h : zRf H) : H.1 14 3 = .ref 18 := h (14, 3, 18) (by decide)
theorem r_14_4 {H : zHp} (h : zRf H) : H.1 14 4 = .ref 19 := h (14, 4, 19) (by decide)
theorem r_14_5 {H : zHp} (h : zRf H) : H.1 14 5 = .ref 20 := h (14, 5, 20) (by decide)
theorem r_15_2 {H : zHp} (h : zRf H) : H.1 15 2 = .ref 16 := h (15, 2, 16) (by decide)
theorem r_21_0 {H : zHp} (h : zRf H) : H.1 21 0 = .ref 22 := h (21, 0, 22) (by decide)
theorem r_23_0 {H : zHp} (h : zRf H) : H.1 23 0 = .ref 24 := h (23, 0, 24) (by decide)
theorem r_50_1 {H : zHp} (h : zRf H) : H.1 50 1 = .ref 51 := h (50, 1, 51) (by decide)
theorem r_50_5 {H : zHp} (h : zRf H) : H.1 50 5 = .ref 52 := h (50, 5, 52) (by decide)
theorem r_50_6 {H : zHp} (h : zRf H) : H.1 50 6 = .ref 53 := h (50, 6, 53) (by decide)
theorem r_50_7 {H : zHp} (h : zRf H) : H.1 50 7 = .ref 54 := h (50, 7, 54) (by decide)
theorem r_50_8 {H : zHp} (h : zRf H) : H.1 50 8 = .ref 55 := h (50, 8, 55) (by decide)
theorem r_50_10 {H : zHp} (h : zRf H) : H.1 50 10 = .ref 56 := h (50, 10, 56) (by decide)
theorem r_50_11 {H : zHp} (h : zRf H) : H.1 50 11 = .ref 57 := h (50, 11, 57) (by decide)
theorem r_50_12 {H : zHp} (h : zRf H) : H.1 50 12 = .ref 58 := h (50, 12, 58) (by decide)
theorem r_50_13 {H : zHp} (h : zRf H) : H.1 50 13 = .ref 59 := h (50, 13, 59) (by decide)
theorem r_50_14 {H : zHp} (h : zRf H) : H.1 50 14 = .ref 60 := h (50, 14, 60) (by decide)
theorem r_50_17 {H : zHp} (h : zRf H) : H.1 50 17 = .ref 61 := h (50, 17, 61) (by decide)
theorem r_50_18 {H : zHp} (h : zRf H) : H.1 50 18 = .ref 62 := h (50, 18, 62) (by decide)
theorem r_50_21 {H : zHp} (h : zRf H) : H.1 50 21 = .ref 63 := h (50, 21, 63) (by decide)
theorem r_50_23 {H : zHp} (h : zRf H) : H.1 50 23 = .ref 64 := h (50, 23, 64) (by decide)
theorem zrl_rp : ∀ p, p < 12 → (3, p, zrp p) ∈ zrl ∧ (zrp p, 2, zrs p) ∈ zrl := by decide +kernel
theorem r_rp {H : zHp} {p : Nat} (h : zRf H) (hp : p < 12) : H.1 3 p = .ref (zrp p) := h _ (zrl_rp p hp).1
theorem r_rs {H : zHp} {p : Nat} (h : zRf H) (hp : p < 12) : H.1 (zrp p) 2 = .ref (zrs p) := h _ (zrl_rp p hp).2
theorem zRf_sI {H : zHp} {o k : Nat} {v : Int32} (h : zRf H) : zRf (zsI H o k v) := h
theorem zRf_sL {H : zHp} {o k : Nat} {v : Int64} (h : zRf H) : zRf (zsL H o k v) := h
theorem zRf_sF {H : zHp} {o k : Nat} {v : Value} (h : zRf H) (hn : ∀ q ∈ zrl, ¬ (q.1 = o ∧ q.2.1 = k)) : zRf (zsF H o k v) := fun q hq => (h_FF H o k _ _ v (hn q hq)).trans (h q hq)
theorem zrl_rope : ∀ r, 26 ≤ r → r < 50 → ∀ q ∈ zrl, q.1 = r → q.2.1 = 2 := by
  intro r h1 h2
  have : ∀ q ∈ zrl, 26 ≤ q.1 → q.1 < 50 → q.2.1 = 2 := by decide +kernel
  intro q hq e
  exact this q hq (by omega) (by omega)
theorem zRf_rope {H : zHp} {r k : Nat} {v : Value} (h : zRf H) (h1 : 26 ≤ r) (h2 : r < 50) (hk : k ≠ 2) : zRf (zsF H r k v) := zRf_sF h (fun q hq e => hk ((zrl_rope r h1 h2 q hq e.1).symm.trans e.2).symm)
/-- the same but in the cells of T -/
def zsm (T : Nat → Prop) (H H' : zHp) : Prop := ∀ a, ¬ T a → H'.1 a = H.1 a ∧ H'.2.1 a = H.2.1 a ∧ H'.2.2 a = H.2.2 a
theorem zsm_rf {T : Nat → Prop} {H : zHp} : zsm T H H := fun _ _ => ⟨rfl, rfl, rfl⟩
theorem zsm_tr {T : Nat → Prop} {H H1 H2 : zHp} (h : zsm T H H1) (h2 : zsm T H1 H2) : zsm T H H2 := fun a ha => ⟨(h2 a ha).1.trans (h a ha).1, (h2 a ha).2.1.trans (h a ha).2.1, (h2 a ha).2.2.trans (h a ha).2.2⟩
theorem zsm_wk {T U : Nat → Prop} {H H1 : zHp} (h : zsm T H H1) (hT : ∀ a, T a → U a) : zsm U H H1 := fun a ha => h a (fun z => ha (hT a z))
theorem zsm_F {T : Nat → Prop} {H H1 : zHp} {o k : Nat} {v : Value} (h : zsm T H H1) (ho : T o) : zsm T H (zsF H1 o k v) := zsm_tr h (fun a ha => ⟨funext fun j => h_FF H1 o k a j v (fun e => ha (e.1 ▸ ho)), rfl, rfl⟩)
theorem zsm_I {T : Nat → Prop} {H H1 : zHp} {o k : Nat} {v : Int32} (h : zsm T H H1) (ho : T o) : zsm T H (zsI H1 o k v) := zsm_tr h (fun a ha => ⟨rfl, funext fun j => h_II H1 o k a j v (fun e => ha (e.1 ▸ ho)), rfl⟩)
theorem zsm_L {T : Nat → Prop} {H H1 : zHp} {o k : Nat} {v : Int64} (h : zsm T H H1) (ho : T o) : zsm T H (zsL H1 o k v) := zsm_tr h (fun a ha => ⟨rfl, rfl, funext fun j => h_LL H1 o k a j v (fun e => ha (e.1 ▸ ho))⟩)
abbrev zfX (H H' : zHp) : Prop := zsm (fun a => a < 50) H H'
abbrev zfM (H H' : zHp) : Prop := zsm (fun a => 50 ≤ a) H H'
/-! THE STATE, in numbers: ways, spread, barred corners; ropes; findings, the latest; tries, asked; the classes' steps and rows -/
abbrev zU : Type := (Nat × Nat × Int64) × (Nat → Option (List Nat)) × ((Nat → Int32) × Int32) × (Int32 × Int64) × (Nat × List (List Nat))
def zup {α : Type} (R : Nat → α) (p : Nat) (v : α) : Nat → α := fun q => if q = p then v else R q
def zrow (w : List Nat) : Prop := w.length ≤ 64 ∧ ∀ x ∈ w, x < 6
def zUok (S : zU) : Prop := (1 ≤ S.1.1 ∧ S.1.1 ≤ 6 ∧ 1 ≤ S.1.2.1 ∧ S.1.2.1 ≤ 3) ∧ (∀ p w, S.2.1 p = some w → zrow w) ∧ (S.2.2.2.2.1 ≤ 64 ∧ S.2.2.2.2.2.length ≤ 200 ∧ ∀ w ∈ S.2.2.2.2.2, w.length = S.2.2.2.2.1 ∧ zrow w)
/-- a rope of the class: its cell r, its steps in cell r + 1 -/
def zIr (H : zHp) (r : Nat) : Option (List Nat) → Prop
  | none => H.1 r 0 = .int (nI 0) ∧ H.1 r 1 = .int (nI 0)
  | some w => H.1 r 0 = .int (nI 1) ∧ H.1 r 1 = .int (nI w.length) ∧ ∀ j, j < w.length → H.2.1 (r + 1) j = nI (w.getD j 0)
/-- corners within r steps of corner c (of the cube with six ways), as bits -/
def zpop (n : Nat) : Nat → Nat | 0 => 0 | k + 1 => zpop n k + (n >>> k) % 2
def zpc (n : Nat) : Nat := zpop n 6
def zball (r c : Nat) (d : Nat) : Bool := decide (zpc (c ^^^ d) ≤ r)
def zbit (x : Int64) (c : Nat) : Bool := x.toBitVec.getLsbD c
def zIf (H : zHp) (r : Nat) (cs : Nat) (cl : List (List Nat)) : Prop := H.1 r 1 = .int (nI cl.length) ∧ H.1 r 2 = .int (nI cs) ∧ ∀ i s, i < cl.length → s < cs → H.2.1 (r + 1) (64 * i + s) = nI ((cl.getD i []).getD s 0)
/-- the class's cells -/
def zIX (H : zHp) (S : zU) : Prop :=
  zRf H ∧ (H.1 1 0 = .int (nI S.1.1) ∧ H.1 1 1 = .int (nI S.1.2.1) ∧ H.1 1 2 = .long S.1.2.2) ∧ (∀ r c, r < 3 → c < 64 → ∀ d, d < 64 → zbit (H.2.2 2 (64 * r + c)) d = zball r c d) ∧
  (∀ p, p < 12 → zIr H (zrp p) (S.2.1 p)) ∧ ((∀ f, f < 5 → H.2.1 25 f = S.2.2.1.1 f) ∧ H.1 0 13 = .int S.2.2.1.2) ∧ (H.1 0 10 = .int S.2.2.2.1.1 ∧ H.1 0 11 = .long S.2.2.2.1.2) ∧
  ∃ kn ga : Nat, (kn = 21 ∧ ga = 23 ∨ kn = 23 ∧ ga = 21) ∧ H.1 0 8 = .ref kn ∧ H.1 0 9 = .ref ga ∧ zIf H kn S.2.2.2.2.1 S.2.2.2.2.2
theorem zIr_same {H H' : zHp} {r : Nat} {o : Option (List Nat)} (h : zIr H r o) (h1 : H'.1 r = H.1 r) (h2 : H'.2.1 (r + 1) = H.2.1 (r + 1)) : zIr H' r o := by
  cases o with
  | none => exact ⟨by rw [h1]; exact h.1, by rw [h1]; exact h.2⟩
  | some w => exact ⟨by rw [h1]; exact h.1, by rw [h1]; exact h.2.1, fun j hj => by rw [h2]; exact h.2.2 j hj⟩
/-- the reference's cells -/
def zIm (H : zHp) (p : Nat) : Option (List Nat) → Prop
  | none => H.2.1 52 p = -nI 9
  | some w => H.2.1 52 p = nI w.length ∧ ∀ j, j < w.length → H.2.1 53 (64 * p + j) = nI (w.getD j 0)
def zIM (H : zHp) (S : zU) : Prop :=
  zRf H ∧ (H.1 50 2 = .int (nI S.1.1) ∧ H.1 50 3 = .int (nI S.1.2.1) ∧ H.1 50 4 = .long S.1.2.2) ∧
  (∀ p, p < 12 → zIm H p (S.2.1 p)) ∧ ((∀ f, f < 5 → H.2.1 51 f = S.2.2.1.1 f) ∧ H.1 50 0 = .int S.2.2.1.2) ∧ (H.1 50 15 = .int S.2.2.2.1.1 ∧ H.1 50 16 = .long S.2.2.2.1.2) ∧
  (H.1 50 24 = .int (nI S.2.2.2.2.2.length) ∧ H.1 50 25 = .int (nI S.2.2.2.2.1) ∧ ∀ i s, i < S.2.2.2.2.2.length → s < S.2.2.2.2.1 → H.2.1 64 (64 * i + s) = nI ((S.2.2.2.2.2.getD i []).getD s 0))

