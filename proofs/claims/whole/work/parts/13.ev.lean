/-! zev: a block is carried out, jumps and small calls followed for k steps; its laws, one an instruction -/
def zev (X : zX) : Nat → Nat → Nat → List zI → Nat → List Value → List Value → zHp → (Option Value → zHp → Prop) → Prop
  | 0, y, n0, c, n, ls, st, H, P => zRun X y n0 n c ls st H P
  | k + 1, y, n0, c, n, ls, st, H, P => zwp X y n0 P (fun t v n ls st H => if v = 1 then zRun X y n0 n (blk y t) ls st H P else zev X k y n0 (blk y t) n ls st H P)
      (fun z v n As H Q => if v = 1 then zsw As (zmL z) ∧ zev X k z n (blk z 0) n (zen As) [] H Q else zCall X z n As H Q) c n ls st H
def zkn (X : zX) (k y n0 : Nat) (c : List zI) (n : Nat) (ls st : List Value) (P : Option Value → zHp → Prop) : Option Value → zHp → Prop := fun w H => zev X (k + 1) y n0 c n ls (w.toList ++ st) H P
theorem zst0 : ∀ z, z < 177 → zst z 0 = 0 := by decide +kernel
theorem zev_sound (X : zX) : ∀ (k y n0 : Nat) (c : List zI) (n : Nat) (ls st : List Value) (H : zHp) (P : Option Value → zHp → Prop), zev X k y n0 c n ls st H P → zRun X y n0 n c ls st H P := by
  intro k
  induction k with
  | zero => intro y n0 c n ls st H P h; exact h
  | succ k ih =>
    intro y n0 c n ls st H P h
    refine zwp_sound ?_ ?_ c n ls st H h
    · intro t v n ls st H h
      by_cases hv : v = 1
      · rwa [if_pos hv] at h
      · rw [if_neg hv] at h
        exact ih _ _ _ _ _ _ _ _ h
    · intro z v n As H Q hz h
      by_cases hv : v = 1
      · rw [if_pos hv] at h
        have hz2 := (zmok_ok hz).1
        exact zCall_of (zmt_all z hz2) hz h.1 (ih _ _ _ _ _ _ _ _ h.2) (zst0 z hz2)
      · rwa [if_neg hv] at h
/-- a call, carried out -/
theorem zgo_call {X : zX} {z n : Nat} {As : List Value} {H : zHp} {Q : Option Value → zHp → Prop} (k : Nat) (hz : z < 177) (hk : zmok z = true) (hl : zsw As (zmL z)) (h : zev X k z n (blk z 0) n (zen As) [] H Q) : zCall X z n As H Q :=
  zCall_of (zmt_all z hz) hk hl (zev_sound X k z n _ _ _ _ _ _ h) (zst0 z hz)
theorem zgo_run {X : zX} {y n0 n : Nat} {c : List zI} {ls st : List Value} {H : zHp} {P : Option Value → zHp → Prop} (k : Nat) (h : zev X k y n0 c n ls st H P) : zRun X y n0 n c ls st H P := zev_sound X k y n0 c n ls st H P h
/-- the same from the head of a loop -/
def zAt (X : zX) (y n0 n t : Nat) (ls st : List Value) (H : zHp) (P : Option Value → zHp → Prop) : Prop := zRun X y n0 n (blk y t) ls st H P
theorem zgo_at {X : zX} {y n0 n t : Nat} {ls st : List Value} {H : zHp} {P : Option Value → zHp → Prop} (k : Nat) (h : zev X k y n0 (blk y t) n ls st H P) : zAt X y n0 n t ls st H P := zev_sound X k y n0 _ n ls st H P h
/-- a loop that counts up to e -/
theorem zfor {R : Nat → zHp → Prop} (G : Nat → zHp → Prop) (e : Nat) (hx : ∀ H, R e H → G e H) (hs : ∀ i H, i < e → R i H → (∀ H', R (i + 1) H' → G (i + 1) H') → G i H) : ∀ i H, i ≤ e → R i H → G i H := by
  intro i
  induction hn : e - i generalizing i with
  | zero =>
    intro H hi hR
    have : i = e := by omega
    subst this
    exact hx H hR
  | succ m ih =>
    intro H hi hR
    exact hs i H (by omega) hR (fun H' hR' => ih (i + 1) (by omega) H' (by omega) hR')
def zokW (n o : Nat) : Prop := o < n ∧ 1 ≤ (zsh o).1 ∧ (zsh o).1 ≤ 4
section ZE
variable (X : zX) (k y n0 n : Nat) (c : List zI) (ls st : List Value) (H : zHp) (P : Option Value → zHp → Prop) (x a b : Nat) (v : Int)
theorem e_nop0 : zev X (k + 1) y n0 ((.nop, x, a, b, 0) :: c) n ls (st) H P = (zev X k y n0 (blk y x) n ls st H P) := rfl
theorem e_goto0 (o9 : Int) : zev X (k + 1) y n0 ((.goto o9, x, a, b, 0) :: c) n ls (st) H P = (zev X k y n0 (blk y x) n ls st H P) := rfl
theorem e_nop1 : zev X (k + 1) y n0 ((.nop, x, a, b, 1) :: c) n ls (st) H P = (zAt X y n0 n x ls st H P) := rfl
theorem e_goto1 (o9 : Int) : zev X (k + 1) y n0 ((.goto o9, x, a, b, 1) :: c) n ls (st) H P = (zAt X y n0 n x ls st H P) := rfl
theorem e_iconst (k0 : Int) : zev X (k + 1) y n0 ((.iconst k0, x, a, b, v) :: c) n ls (st) H P = (zev X (k + 1) y n0 c n (ls) (.int (zkI x a) :: st) (H) P) := rfl
theorem e_bipush (k0 : Int) : zev X (k + 1) y n0 ((.bipush k0, x, a, b, v) :: c) n ls (st) H P = (zev X (k + 1) y n0 c n (ls) (.int (zkI x a) :: st) (H) P) := rfl
theorem e_sipush (k0 : Int) : zev X (k + 1) y n0 ((.sipush k0, x, a, b, v) :: c) n ls (st) H P = (zev X (k + 1) y n0 c n (ls) (.int (zkI x a) :: st) (H) P) := rfl
theorem e_ldc_w (k0 : Nat) : zev X (k + 1) y n0 ((.ldc_w k0, x, a, b, v) :: c) n ls (st) H P = (zev X (k + 1) y n0 c n (ls) (.int (zkI x a) :: st) (H) P) := rfl
theorem e_lconst (k0 : Fin 2) : zev X (k + 1) y n0 ((.lconst k0, x, a, b, v) :: c) n ls (st) H P = (zev X (k + 1) y n0 c n (ls) (.long (zkL x a) :: st) (H) P) := rfl
theorem e_ldc2_w (k0 : Nat) : zev X (k + 1) y n0 ((.ldc2_w k0, x, a, b, v) :: c) n ls (st) H P = (zev X (k + 1) y n0 c n (ls) (.long (zkL x a) :: st) (H) P) := rfl
theorem e_iload (k0 : Nat) : zev X (k + 1) y n0 ((.iload k0, x, a, b, v) :: c) n ls (st) H P = (zisI (zlg ls k0) ∧ zev X (k + 1) y n0 c n (ls) (zlg ls k0 :: st) (H) P) := rfl
theorem e_iload_n_0 : zev X (k + 1) y n0 ((.iload_n 0, x, a, b, v) :: c) n ls (st) H P = (zisI (zlg ls 0) ∧ zev X (k + 1) y n0 c n (ls) (zlg ls 0 :: st) (H) P) := rfl
theorem e_iload_n_1 : zev X (k + 1) y n0 ((.iload_n 1, x, a, b, v) :: c) n ls (st) H P = (zisI (zlg ls 1) ∧ zev X (k + 1) y n0 c n (ls) (zlg ls 1 :: st) (H) P) := rfl
theorem e_iload_n_2 : zev X (k + 1) y n0 ((.iload_n 2, x, a, b, v) :: c) n ls (st) H P = (zisI (zlg ls 2) ∧ zev X (k + 1) y n0 c n (ls) (zlg ls 2 :: st) (H) P) := rfl
theorem e_iload_n_3 : zev X (k + 1) y n0 ((.iload_n 3, x, a, b, v) :: c) n ls (st) H P = (zisI (zlg ls 3) ∧ zev X (k + 1) y n0 c n (ls) (zlg ls 3 :: st) (H) P) := rfl
theorem e_lload (k0 : Nat) : zev X (k + 1) y n0 ((.lload k0, x, a, b, v) :: c) n ls (st) H P = (zisL (zlg ls k0) ∧ zev X (k + 1) y n0 c n (ls) (zlg ls k0 :: st) (H) P) := rfl
theorem e_lload_n_0 : zev X (k + 1) y n0 ((.lload_n 0, x, a, b, v) :: c) n ls (st) H P = (zisL (zlg ls 0) ∧ zev X (k + 1) y n0 c n (ls) (zlg ls 0 :: st) (H) P) := rfl
theorem e_lload_n_1 : zev X (k + 1) y n0 ((.lload_n 1, x, a, b, v) :: c) n ls (st) H P = (zisL (zlg ls 1) ∧ zev X (k + 1) y n0 c n (ls) (zlg ls 1 :: st) (H) P) := rfl
theorem e_lload_n_2 : zev X (k + 1) y n0 ((.lload_n 2, x, a, b, v) :: c) n ls (st) H P = (zisL (zlg ls 2) ∧ zev X (k + 1) y n0 c n (ls) (zlg ls 2 :: st) (H) P) := rfl
theorem e_lload_n_3 : zev X (k + 1) y n0 ((.lload_n 3, x, a, b, v) :: c) n ls (st) H P = (zisL (zlg ls 3) ∧ zev X (k + 1) y n0 c n (ls) (zlg ls 3 :: st) (H) P) := rfl
theorem e_aload (k0 : Nat) : zev X (k + 1) y n0 ((.aload k0, x, a, b, v) :: c) n ls (st) H P = (zisR (zlg ls k0) ∧ zev X (k + 1) y n0 c n (ls) (zlg ls k0 :: st) (H) P) := rfl
theorem e_aload_n_0 : zev X (k + 1) y n0 ((.aload_n 0, x, a, b, v) :: c) n ls (st) H P = (zisR (zlg ls 0) ∧ zev X (k + 1) y n0 c n (ls) (zlg ls 0 :: st) (H) P) := rfl
theorem e_aload_n_1 : zev X (k + 1) y n0 ((.aload_n 1, x, a, b, v) :: c) n ls (st) H P = (zisR (zlg ls 1) ∧ zev X (k + 1) y n0 c n (ls) (zlg ls 1 :: st) (H) P) := rfl
theorem e_aload_n_2 : zev X (k + 1) y n0 ((.aload_n 2, x, a, b, v) :: c) n ls (st) H P = (zisR (zlg ls 2) ∧ zev X (k + 1) y n0 c n (ls) (zlg ls 2 :: st) (H) P) := rfl
theorem e_aload_n_3 : zev X (k + 1) y n0 ((.aload_n 3, x, a, b, v) :: c) n ls (st) H P = (zisR (zlg ls 3) ∧ zev X (k + 1) y n0 c n (ls) (zlg ls 3 :: st) (H) P) := rfl
theorem e_istore (k0 : Nat) (q : Int32) : zev X (k + 1) y n0 ((.istore k0, x, a, b, v) :: c) n ls (.int q :: st) H P = (zev X (k + 1) y n0 c n (zs1 ls k0 (.int q)) (st) (H) P) := rfl
theorem e_istore_n_0 (q : Int32) : zev X (k + 1) y n0 ((.istore_n 0, x, a, b, v) :: c) n ls (.int q :: st) H P = (zev X (k + 1) y n0 c n (zs1 ls 0 (.int q)) (st) (H) P) := rfl
theorem e_istore_n_1 (q : Int32) : zev X (k + 1) y n0 ((.istore_n 1, x, a, b, v) :: c) n ls (.int q :: st) H P = (zev X (k + 1) y n0 c n (zs1 ls 1 (.int q)) (st) (H) P) := rfl
theorem e_istore_n_2 (q : Int32) : zev X (k + 1) y n0 ((.istore_n 2, x, a, b, v) :: c) n ls (.int q :: st) H P = (zev X (k + 1) y n0 c n (zs1 ls 2 (.int q)) (st) (H) P) := rfl
theorem e_istore_n_3 (q : Int32) : zev X (k + 1) y n0 ((.istore_n 3, x, a, b, v) :: c) n ls (.int q :: st) H P = (zev X (k + 1) y n0 c n (zs1 ls 3 (.int q)) (st) (H) P) := rfl
theorem e_lstore (k0 : Nat) (q : Int64) : zev X (k + 1) y n0 ((.lstore k0, x, a, b, v) :: c) n ls (.long q :: st) H P = (zev X (k + 1) y n0 c n (zs2 ls k0 (.long q)) (st) (H) P) := rfl
theorem e_lstore_n_0 (q : Int64) : zev X (k + 1) y n0 ((.lstore_n 0, x, a, b, v) :: c) n ls (.long q :: st) H P = (zev X (k + 1) y n0 c n (zs2 ls 0 (.long q)) (st) (H) P) := rfl
theorem e_lstore_n_1 (q : Int64) : zev X (k + 1) y n0 ((.lstore_n 1, x, a, b, v) :: c) n ls (.long q :: st) H P = (zev X (k + 1) y n0 c n (zs2 ls 1 (.long q)) (st) (H) P) := rfl
theorem e_lstore_n_2 (q : Int64) : zev X (k + 1) y n0 ((.lstore_n 2, x, a, b, v) :: c) n ls (.long q :: st) H P = (zev X (k + 1) y n0 c n (zs2 ls 2 (.long q)) (st) (H) P) := rfl
theorem e_lstore_n_3 (q : Int64) : zev X (k + 1) y n0 ((.lstore_n 3, x, a, b, v) :: c) n ls (.long q :: st) H P = (zev X (k + 1) y n0 c n (zs2 ls 3 (.long q)) (st) (H) P) := rfl
theorem e_astore (k0 : Nat) (q : Nat) : zev X (k + 1) y n0 ((.astore k0, x, a, b, v) :: c) n ls (.ref q :: st) H P = (zev X (k + 1) y n0 c n (zs1 ls k0 (.ref q)) (st) (H) P) := rfl
theorem e_astore_n_0 (q : Nat) : zev X (k + 1) y n0 ((.astore_n 0, x, a, b, v) :: c) n ls (.ref q :: st) H P = (zev X (k + 1) y n0 c n (zs1 ls 0 (.ref q)) (st) (H) P) := rfl
theorem e_astore_n_1 (q : Nat) : zev X (k + 1) y n0 ((.astore_n 1, x, a, b, v) :: c) n ls (.ref q :: st) H P = (zev X (k + 1) y n0 c n (zs1 ls 1 (.ref q)) (st) (H) P) := rfl
theorem e_astore_n_2 (q : Nat) : zev X (k + 1) y n0 ((.astore_n 2, x, a, b, v) :: c) n ls (.ref q :: st) H P = (zev X (k + 1) y n0 c n (zs1 ls 2 (.ref q)) (st) (H) P) := rfl
theorem e_astore_n_3 (q : Nat) : zev X (k + 1) y n0 ((.astore_n 3, x, a, b, v) :: c) n ls (.ref q :: st) H P = (zev X (k + 1) y n0 c n (zs1 ls 3 (.ref q)) (st) (H) P) := rfl
def zinc (w : Value) (d : Int) : Value := match w with | .int q => .int (q + Int32.ofInt d) | v => v
theorem e_iinc0 (k0 : Nat) (d : Int) (w9 : Value) (hw : zlg ls k0 = w9) : zev X (k + 1) y n0 ((.iinc k0 d, x, a, b, v) :: c) n ls st H P = (zisI w9 ∧ zev X (k + 1) y n0 c n (zs1 ls k0 (zinc w9 d)) (st) (H) P) := by
  show zwp _ _ _ _ _ _ _ _ _ _ _ = _
  unfold zwp
  simp only [hw]
  cases w9 <;> simp only [zisI, zinc, true_and, false_and]
  rfl
theorem e_iinc (k0 : Nat) (d : Int) : zev X (k + 1) y n0 ((.iinc k0 d, x, a, b, v) :: c) n ls st H P = (zisI (zlg ls k0) ∧ zev X (k + 1) y n0 c n (zs1 ls k0 (zinc (zlg ls k0) d)) (st) (H) P) := e_iinc0 X k y n0 n c ls st H P x a b v k0 d _ rfl
theorem e_iadd (p q : Int32) : zev X (k + 1) y n0 ((.iadd, x, a, b, v) :: c) n ls (.int q :: .int p :: st) H P = (zev X (k + 1) y n0 c n (ls) (.int (p + q) :: st) (H) P) := rfl
theorem e_ladd (p q : Int64) : zev X (k + 1) y n0 ((.ladd, x, a, b, v) :: c) n ls (.long q :: .long p :: st) H P = (zev X (k + 1) y n0 c n (ls) (.long (p + q) :: st) (H) P) := rfl
theorem e_isub (p q : Int32) : zev X (k + 1) y n0 ((.isub, x, a, b, v) :: c) n ls (.int q :: .int p :: st) H P = (zev X (k + 1) y n0 c n (ls) (.int (p - q) :: st) (H) P) := rfl
theorem e_lsub (p q : Int64) : zev X (k + 1) y n0 ((.lsub, x, a, b, v) :: c) n ls (.long q :: .long p :: st) H P = (zev X (k + 1) y n0 c n (ls) (.long (p - q) :: st) (H) P) := rfl
theorem e_imul (p q : Int32) : zev X (k + 1) y n0 ((.imul, x, a, b, v) :: c) n ls (.int q :: .int p :: st) H P = (zev X (k + 1) y n0 c n (ls) (.int (p * q) :: st) (H) P) := rfl
theorem e_lmul (p q : Int64) : zev X (k + 1) y n0 ((.lmul, x, a, b, v) :: c) n ls (.long q :: .long p :: st) H P = (zev X (k + 1) y n0 c n (ls) (.long (p * q) :: st) (H) P) := rfl
theorem e_iand (p q : Int32) : zev X (k + 1) y n0 ((.iand, x, a, b, v) :: c) n ls (.int q :: .int p :: st) H P = (zev X (k + 1) y n0 c n (ls) (.int (p &&& q) :: st) (H) P) := rfl
theorem e_land (p q : Int64) : zev X (k + 1) y n0 ((.land, x, a, b, v) :: c) n ls (.long q :: .long p :: st) H P = (zev X (k + 1) y n0 c n (ls) (.long (p &&& q) :: st) (H) P) := rfl
theorem e_ior (p q : Int32) : zev X (k + 1) y n0 ((.ior, x, a, b, v) :: c) n ls (.int q :: .int p :: st) H P = (zev X (k + 1) y n0 c n (ls) (.int (p ||| q) :: st) (H) P) := rfl
theorem e_lor (p q : Int64) : zev X (k + 1) y n0 ((.lor, x, a, b, v) :: c) n ls (.long q :: .long p :: st) H P = (zev X (k + 1) y n0 c n (ls) (.long (p ||| q) :: st) (H) P) := rfl
theorem e_ixor (p q : Int32) : zev X (k + 1) y n0 ((.ixor, x, a, b, v) :: c) n ls (.int q :: .int p :: st) H P = (zev X (k + 1) y n0 c n (ls) (.int (p ^^^ q) :: st) (H) P) := rfl
theorem e_lxor (p q : Int64) : zev X (k + 1) y n0 ((.lxor, x, a, b, v) :: c) n ls (.long q :: .long p :: st) H P = (zev X (k + 1) y n0 c n (ls) (.long (p ^^^ q) :: st) (H) P) := rfl
theorem e_idiv (p q : Int32) : zev X (k + 1) y n0 ((.idiv, x, a, b, v) :: c) n ls (.int q :: .int p :: st) H P = (¬ q = 0 ∧ zev X (k + 1) y n0 c n (ls) (.int (p / q) :: st) (H) P) := rfl
theorem e_irem (p q : Int32) : zev X (k + 1) y n0 ((.irem, x, a, b, v) :: c) n ls (.int q :: .int p :: st) H P = (¬ q = 0 ∧ zev X (k + 1) y n0 c n (ls) (.int (p - p / q * q) :: st) (H) P) := rfl
theorem e_ishl (p q : Int32) : zev X (k + 1) y n0 ((.ishl, x, a, b, v) :: c) n ls (.int q :: .int p :: st) H P = (zev X (k + 1) y n0 c n (ls) (.int (p <<< (q &&& 31)) :: st) (H) P) := rfl
theorem e_ishr (p q : Int32) : zev X (k + 1) y n0 ((.ishr, x, a, b, v) :: c) n ls (.int q :: .int p :: st) H P = (zev X (k + 1) y n0 c n (ls) (.int (p >>> (q &&& 31)) :: st) (H) P) := rfl
theorem e_iushr (p q : Int32) : zev X (k + 1) y n0 ((.iushr, x, a, b, v) :: c) n ls (.int q :: .int p :: st) H P = (zev X (k + 1) y n0 c n (ls) (.int ((p.toUInt32 >>> (q.toUInt32 &&& Int32.toUInt32 31)).toInt32) :: st) (H) P) := rfl
theorem e_lshl (p : Int64) (q : Int32) : zev X (k + 1) y n0 ((.lshl, x, a, b, v) :: c) n ls (.int q :: .long p :: st) H P = (zev X (k + 1) y n0 c n (ls) (.long (p <<< (q.toInt64 &&& 63)) :: st) (H) P) := rfl
theorem e_lshr (p : Int64) (q : Int32) : zev X (k + 1) y n0 ((.lshr, x, a, b, v) :: c) n ls (.int q :: .long p :: st) H P = (zev X (k + 1) y n0 c n (ls) (.long (p >>> (q.toInt64 &&& 63)) :: st) (H) P) := rfl
theorem e_lushr (p : Int64) (q : Int32) : zev X (k + 1) y n0 ((.lushr, x, a, b, v) :: c) n ls (.int q :: .long p :: st) H P = (zev X (k + 1) y n0 c n (ls) (.long ((p.toUInt64 >>> (q.toInt64.toUInt64 &&& Int64.toUInt64 63)).toInt64) :: st) (H) P) := rfl
theorem e_i2l (q : Int32) : zev X (k + 1) y n0 ((.i2l, x, a, b, v) :: c) n ls (.int q :: st) H P = (zev X (k + 1) y n0 c n (ls) (.long q.toInt64 :: st) (H) P) := rfl
theorem e_l2i (q : Int64) : zev X (k + 1) y n0 ((.l2i, x, a, b, v) :: c) n ls (.long q :: st) H P = (zev X (k + 1) y n0 c n (ls) (.int q.toInt32 :: st) (H) P) := rfl
theorem e_i2b (q : Int32) : zev X (k + 1) y n0 ((.i2b, x, a, b, v) :: c) n ls (.int q :: st) H P = (zev X (k + 1) y n0 c n (ls) (.int q.toInt8.toInt32 :: st) (H) P) := rfl
theorem e_lcmp (p q : Int64) : zev X (k + 1) y n0 ((.lcmp, x, a, b, v) :: c) n ls (.long q :: .long p :: st) H P = (zev X (k + 1) y n0 c n (ls) (.int (lg_cmp p q) :: st) (H) P) := rfl
theorem e_dupi (q : Int32) : zev X (k + 1) y n0 ((.dup, x, a, b, v) :: c) n ls (.int q :: st) H P = (zev X (k + 1) y n0 c n (ls) (.int q :: .int q :: st) (H) P) := rfl
theorem e_dupr (q : Nat) : zev X (k + 1) y n0 ((.dup, x, a, b, v) :: c) n ls (.ref q :: st) H P = (zev X (k + 1) y n0 c n (ls) (.ref q :: .ref q :: st) (H) P) := rfl
theorem e_dup2 (q : Int32) (p : Nat) : zev X (k + 1) y n0 ((.dup2, x, a, b, v) :: c) n ls (.int q :: .ref p :: st) H P = (zev X (k + 1) y n0 c n (ls) (.int q :: .ref p :: .int q :: .ref p :: st) (H) P) := rfl
theorem e_if_eq0 (q : Int32) (o9 : Int) : zev X (k + 1) y n0 ((.ifCond .eq o9, x, a, b, 0) :: c) n ls (.int q :: st) H P = (if q = nI 0 then zev X k y n0 (blk y x) n ls st H P else zev X (k + 1) y n0 c n (ls) (st) (H) P) := rfl
theorem e_if_ne0 (q : Int32) (o9 : Int) : zev X (k + 1) y n0 ((.ifCond .ne o9, x, a, b, 0) :: c) n ls (.int q :: st) H P = (if q = nI 0 then zev X (k + 1) y n0 c n (ls) (st) (H) P else zev X k y n0 (blk y x) n ls st H P) := rfl
theorem e_if_lt0 (q : Int32) (o9 : Int) : zev X (k + 1) y n0 ((.ifCond .lt o9, x, a, b, 0) :: c) n ls (.int q :: st) H P = (if q < nI 0 then zev X k y n0 (blk y x) n ls st H P else zev X (k + 1) y n0 c n (ls) (st) (H) P) := rfl
theorem e_if_ge0 (q : Int32) (o9 : Int) : zev X (k + 1) y n0 ((.ifCond .ge o9, x, a, b, 0) :: c) n ls (.int q :: st) H P = (if q < nI 0 then zev X (k + 1) y n0 c n (ls) (st) (H) P else zev X k y n0 (blk y x) n ls st H P) := rfl
theorem e_if_gt0 (q : Int32) (o9 : Int) : zev X (k + 1) y n0 ((.ifCond .gt o9, x, a, b, 0) :: c) n ls (.int q :: st) H P = (if q ≤ nI 0 then zev X (k + 1) y n0 c n (ls) (st) (H) P else zev X k y n0 (blk y x) n ls st H P) := rfl
theorem e_if_le0 (q : Int32) (o9 : Int) : zev X (k + 1) y n0 ((.ifCond .le o9, x, a, b, 0) :: c) n ls (.int q :: st) H P = (if q ≤ nI 0 then zev X k y n0 (blk y x) n ls st H P else zev X (k + 1) y n0 c n (ls) (st) (H) P) := rfl
theorem e_icmp_eq0 (p q : Int32) (o9 : Int) : zev X (k + 1) y n0 ((.if_icmp .eq o9, x, a, b, 0) :: c) n ls (.int q :: .int p :: st) H P = (if p = q then zev X k y n0 (blk y x) n ls st H P else zev X (k + 1) y n0 c n (ls) (st) (H) P) := rfl
theorem e_icmp_ne0 (p q : Int32) (o9 : Int) : zev X (k + 1) y n0 ((.if_icmp .ne o9, x, a, b, 0) :: c) n ls (.int q :: .int p :: st) H P = (if p = q then zev X (k + 1) y n0 c n (ls) (st) (H) P else zev X k y n0 (blk y x) n ls st H P) := rfl
theorem e_icmp_lt0 (p q : Int32) (o9 : Int) : zev X (k + 1) y n0 ((.if_icmp .lt o9, x, a, b, 0) :: c) n ls (.int q :: .int p :: st) H P = (if p < q then zev X k y n0 (blk y x) n ls st H P else zev X (k + 1) y n0 c n (ls) (st) (H) P) := rfl
theorem e_icmp_ge0 (p q : Int32) (o9 : Int) : zev X (k + 1) y n0 ((.if_icmp .ge o9, x, a, b, 0) :: c) n ls (.int q :: .int p :: st) H P = (if p < q then zev X (k + 1) y n0 c n (ls) (st) (H) P else zev X k y n0 (blk y x) n ls st H P) := rfl
theorem e_icmp_gt0 (p q : Int32) (o9 : Int) : zev X (k + 1) y n0 ((.if_icmp .gt o9, x, a, b, 0) :: c) n ls (.int q :: .int p :: st) H P = (if p ≤ q then zev X (k + 1) y n0 c n (ls) (st) (H) P else zev X k y n0 (blk y x) n ls st H P) := rfl
theorem e_icmp_le0 (p q : Int32) (o9 : Int) : zev X (k + 1) y n0 ((.if_icmp .le o9, x, a, b, 0) :: c) n ls (.int q :: .int p :: st) H P = (if p ≤ q then zev X k y n0 (blk y x) n ls st H P else zev X (k + 1) y n0 c n (ls) (st) (H) P) := rfl
theorem e_if_eq1 (q : Int32) (o9 : Int) : zev X (k + 1) y n0 ((.ifCond .eq o9, x, a, b, 1) :: c) n ls (.int q :: st) H P = (if q = nI 0 then zAt X y n0 n x ls st H P else zev X (k + 1) y n0 c n (ls) (st) (H) P) := rfl
theorem e_if_ne1 (q : Int32) (o9 : Int) : zev X (k + 1) y n0 ((.ifCond .ne o9, x, a, b, 1) :: c) n ls (.int q :: st) H P = (if q = nI 0 then zev X (k + 1) y n0 c n (ls) (st) (H) P else zAt X y n0 n x ls st H P) := rfl
theorem e_if_lt1 (q : Int32) (o9 : Int) : zev X (k + 1) y n0 ((.ifCond .lt o9, x, a, b, 1) :: c) n ls (.int q :: st) H P = (if q < nI 0 then zAt X y n0 n x ls st H P else zev X (k + 1) y n0 c n (ls) (st) (H) P) := rfl
theorem e_if_ge1 (q : Int32) (o9 : Int) : zev X (k + 1) y n0 ((.ifCond .ge o9, x, a, b, 1) :: c) n ls (.int q :: st) H P = (if q < nI 0 then zev X (k + 1) y n0 c n (ls) (st) (H) P else zAt X y n0 n x ls st H P) := rfl
theorem e_if_gt1 (q : Int32) (o9 : Int) : zev X (k + 1) y n0 ((.ifCond .gt o9, x, a, b, 1) :: c) n ls (.int q :: st) H P = (if q ≤ nI 0 then zev X (k + 1) y n0 c n (ls) (st) (H) P else zAt X y n0 n x ls st H P) := rfl
theorem e_if_le1 (q : Int32) (o9 : Int) : zev X (k + 1) y n0 ((.ifCond .le o9, x, a, b, 1) :: c) n ls (.int q :: st) H P = (if q ≤ nI 0 then zAt X y n0 n x ls st H P else zev X (k + 1) y n0 c n (ls) (st) (H) P) := rfl
theorem e_icmp_eq1 (p q : Int32) (o9 : Int) : zev X (k + 1) y n0 ((.if_icmp .eq o9, x, a, b, 1) :: c) n ls (.int q :: .int p :: st) H P = (if p = q then zAt X y n0 n x ls st H P else zev X (k + 1) y n0 c n (ls) (st) (H) P) := rfl
theorem e_icmp_ne1 (p q : Int32) (o9 : Int) : zev X (k + 1) y n0 ((.if_icmp .ne o9, x, a, b, 1) :: c) n ls (.int q :: .int p :: st) H P = (if p = q then zev X (k + 1) y n0 c n (ls) (st) (H) P else zAt X y n0 n x ls st H P) := rfl
theorem e_icmp_lt1 (p q : Int32) (o9 : Int) : zev X (k + 1) y n0 ((.if_icmp .lt o9, x, a, b, 1) :: c) n ls (.int q :: .int p :: st) H P = (if p < q then zAt X y n0 n x ls st H P else zev X (k + 1) y n0 c n (ls) (st) (H) P) := rfl
theorem e_icmp_ge1 (p q : Int32) (o9 : Int) : zev X (k + 1) y n0 ((.if_icmp .ge o9, x, a, b, 1) :: c) n ls (.int q :: .int p :: st) H P = (if p < q then zev X (k + 1) y n0 c n (ls) (st) (H) P else zAt X y n0 n x ls st H P) := rfl
theorem e_icmp_gt1 (p q : Int32) (o9 : Int) : zev X (k + 1) y n0 ((.if_icmp .gt o9, x, a, b, 1) :: c) n ls (.int q :: .int p :: st) H P = (if p ≤ q then zev X (k + 1) y n0 c n (ls) (st) (H) P else zAt X y n0 n x ls st H P) := rfl
theorem e_icmp_le1 (p q : Int32) (o9 : Int) : zev X (k + 1) y n0 ((.if_icmp .le o9, x, a, b, 1) :: c) n ls (.int q :: .int p :: st) H P = (if p ≤ q then zAt X y n0 n x ls st H P else zev X (k + 1) y n0 c n (ls) (st) (H) P) := rfl
theorem e_table (q : Int32) (d9 l9 h9 : Int) (f9 : Array Int) : zev X (k + 1) y n0 ((.tableswitch d9 l9 h9 f9, x, a, b, 0) :: c) n ls (.int q :: st) H P = ((∀ j, j < a → q = nI j → zev X k y n0 (blk y (x + j)) n ls st H P) ∧ ((∀ j, j < a → ¬ q = nI j) → zev X k y n0 (blk y (x + a)) n ls st H P)) := rfl
theorem e_getfield (k0 o : Nat) : zev X (k + 1) y n0 ((.getfield k0, x, a, b, v) :: c) n ls (.ref o :: st) H P = (zokO n o x ∧ zev X (k + 1) y n0 c n (ls) (H.1 o a :: st) (H) P) := rfl
theorem e_putfield (k0 o : Nat) (w : Value) : zev X (k + 1) y n0 ((.putfield k0, x, a, b, v) :: c) n ls (w :: .ref o :: st) H P = (zokO n o x ∧ zokV v w ∧ zev X (k + 1) y n0 c n (ls) (st) (zsF H o a w) P) := rfl
theorem e_getstatic (k0 : Nat) : zev X (k + 1) y n0 ((.getstatic k0, x, a, b, v) :: c) n ls (st) H P = (zev X (k + 1) y n0 c n (ls) (.ref 9002 :: st) (H) P) := rfl
theorem e_iaload0 (i : Int32) (o : Nat) : zev X (k + 1) y n0 ((.iaload, 0, a, b, v) :: c) n ls (.int i :: .ref o :: st) H P = (zokA n o 1 ∧ zinR i (zal o) ∧ zev X (k + 1) y n0 c n (ls) (.int (H.2.1 o (zix i)) :: st) (H) P) := rfl
theorem e_iaload1 (i : Int32) (o : Nat) : zev X (k + 1) y n0 ((.iaload, 1, a, b, v) :: c) n ls (.int i :: .ref o :: st) H P = (o = 9001 ∧ zinR i (zXL X) ∧ zev X (k + 1) y n0 c n (ls) (.int (zXs X (zix i)) :: st) (H) P) := rfl
theorem e_laload0 (i : Int32) (o : Nat) : zev X (k + 1) y n0 ((.laload, 0, a, b, v) :: c) n ls (.int i :: .ref o :: st) H P = (zokA n o 2 ∧ zinR i (zal o) ∧ zev X (k + 1) y n0 c n (ls) (.long (H.2.2 o (zix i)) :: st) (H) P) := rfl
theorem e_laload2 (i : Int32) (o : Nat) : zev X (k + 1) y n0 ((.laload, 2, a, b, v) :: c) n ls (.int i :: .ref o :: st) H P = (o = 9002 ∧ zinR i 6 ∧ zev X (k + 1) y n0 c n (ls) (.long (zwof (zix i)) :: st) (H) P) := rfl
theorem e_baload (i : Int32) (o : Nat) : zev X (k + 1) y n0 ((.baload, x, a, b, v) :: c) n ls (.int i :: .ref o :: st) H P = (zokA n o 3 ∧ zinR i (zal o) ∧ zev X (k + 1) y n0 c n (ls) (.int (H.2.1 o (zix i)) :: st) (H) P) := rfl
theorem e_aaload (i : Int32) (o : Nat) : zev X (k + 1) y n0 ((.aaload, x, a, b, v) :: c) n ls (.int i :: .ref o :: st) H P = (zokA n o 4 ∧ zinR i (zal o) ∧ zisR (H.1 o (zix i)) ∧ zev X (k + 1) y n0 c n (ls) (H.1 o (zix i) :: st) (H) P) := rfl
theorem e_iastore (i q : Int32) (o : Nat) : zev X (k + 1) y n0 ((.iastore, x, a, b, v) :: c) n ls (.int q :: .int i :: .ref o :: st) H P = (zokA n o 1 ∧ zinR i (zal o) ∧ zev X (k + 1) y n0 c n (ls) (st) (zsI H o (zix i) q) P) := rfl
theorem e_bastore (i q : Int32) (o : Nat) : zev X (k + 1) y n0 ((.bastore, x, a, b, v) :: c) n ls (.int q :: .int i :: .ref o :: st) H P = (zokA n o 3 ∧ zinR i (zal o) ∧ zev X (k + 1) y n0 c n (ls) (st) (zsI H o (zix i) q.toInt8.toInt32) P) := rfl
theorem e_lastore (i : Int32) (q : Int64) (o : Nat) : zev X (k + 1) y n0 ((.lastore, x, a, b, v) :: c) n ls (.long q :: .int i :: .ref o :: st) H P = (zokA n o 2 ∧ zinR i (zal o) ∧ zev X (k + 1) y n0 c n (ls) (st) (zsL H o (zix i) q) P) := rfl
theorem e_aastore (i : Int32) (o r : Nat) : zev X (k + 1) y n0 ((.aastore, x, a, b, v) :: c) n ls (.ref r :: .int i :: .ref o :: st) H P = (zokA n o 4 ∧ zinR i (zal o) ∧ zokO n r 3 ∧ zev X (k + 1) y n0 c n (ls) (st) (zsF H o (zix i) (.ref r)) P) := rfl
theorem e_arraylength0 (o : Nat) : zev X (k + 1) y n0 ((.arraylength, 0, a, b, v) :: c) n ls (.ref o :: st) H P = (zokW n o ∧ zev X (k + 1) y n0 c n (ls) (.int (nI (zal o)) :: st) (H) P) := rfl
theorem e_arraylength1 (o : Nat) : zev X (k + 1) y n0 ((.arraylength, 1, a, b, v) :: c) n ls (.ref o :: st) H P = (o = 9001 ∧ zev X (k + 1) y n0 c n (ls) (.int (nI (zXL X)) :: st) (H) P) := rfl
theorem e_arraylength2 (o : Nat) : zev X (k + 1) y n0 ((.arraylength, 2, a, b, v) :: c) n ls (.ref o :: st) H P = (o = 9002 ∧ zev X (k + 1) y n0 c n (ls) (.int (nI 6) :: st) (H) P) := rfl
theorem e_new (k0 : Nat) : zev X (k + 1) y n0 ((.new k0, x, a, b, v) :: c) n ls (st) H P = (zsh n = (0, x) ∧ zokN y n0 n ∧ zev X (k + 1) y n0 c (n + 1) (ls) (.ref n :: st) (zrF H n (zdf x)) P) := rfl
theorem e_newarray1 (k0 : Jvm.ClassFile.ArrayType) (q : Int32) : zev X (k + 1) y n0 ((.newarray k0, 1, a, b, v) :: c) n ls (.int q :: st) H P = ((zsh n).1 = 1 ∧ (zal n < 100000 ∧ q = nI (zal n)) ∧ zokN y n0 n ∧ zev X (k + 1) y n0 c (n + 1) (ls) (.ref n :: st) (zrI H n (fun _ => 0)) P) := rfl
theorem e_newarray2 (k0 : Jvm.ClassFile.ArrayType) (q : Int32) : zev X (k + 1) y n0 ((.newarray k0, 2, a, b, v) :: c) n ls (.int q :: st) H P = ((zsh n).1 = 2 ∧ (zal n < 100000 ∧ q = nI (zal n)) ∧ zokN y n0 n ∧ zev X (k + 1) y n0 c (n + 1) (ls) (.ref n :: st) (zrL H n (fun _ => 0)) P) := rfl
theorem e_newarray3 (k0 : Jvm.ClassFile.ArrayType) (q : Int32) : zev X (k + 1) y n0 ((.newarray k0, 3, a, b, v) :: c) n ls (.int q :: st) H P = ((zsh n).1 = 3 ∧ (zal n < 100000 ∧ q = nI (zal n)) ∧ zokN y n0 n ∧ zev X (k + 1) y n0 c (n + 1) (ls) (.ref n :: st) (zrI H n (fun _ => 0)) P) := rfl
theorem e_anewarray (k0 : Nat) (q : Int32) : zev X (k + 1) y n0 ((.anewarray k0, x, a, b, v) :: c) n ls (.int q :: st) H P = ((zsh n).1 = 4 ∧ (zal n < 100000 ∧ q = nI (zal n)) ∧ zokN y n0 n ∧ zev X (k + 1) y n0 c (n + 1) (ls) (.ref n :: st) (zrF H n (fun _ => .null)) P) := rfl
theorem e_invv1_0 (k0 o : Nat) : zev X (k + 1) y n0 ((.invokevirtual k0, x, 1, b, 0) :: c) n ls (.ref o :: st) H P = (zokO n o (zcI x) ∧ zsw st 8 ∧ zCall X x n [.ref o] H (zkn X k y n0 c n ls st P)) := rfl
theorem e_invv1_1 (k0 o : Nat) : zev X (k + 1) y n0 ((.invokevirtual k0, x, 1, b, 1) :: c) n ls (.ref o :: st) H P = (zokO n o (zcI x) ∧ zsw st 8 ∧ zsw [.ref o] (zmL x) ∧ zev X k x n (blk x 0) n (zen [.ref o]) [] H (zkn X k y n0 c n ls st P)) := rfl
theorem e_invv2_0 (k0 o : Nat) (q1 : Value) : zev X (k + 1) y n0 ((.invokevirtual k0, x, 2, b, 0) :: c) n ls (q1 :: .ref o :: st) H P = (zokO n o (zcI x) ∧ zsw st 8 ∧ zCall X x n [.ref o, q1] H (zkn X k y n0 c n ls st P)) := rfl
theorem e_invv2_1 (k0 o : Nat) (q1 : Value) : zev X (k + 1) y n0 ((.invokevirtual k0, x, 2, b, 1) :: c) n ls (q1 :: .ref o :: st) H P = (zokO n o (zcI x) ∧ zsw st 8 ∧ zsw [.ref o, q1] (zmL x) ∧ zev X k x n (blk x 0) n (zen [.ref o, q1]) [] H (zkn X k y n0 c n ls st P)) := rfl
theorem e_invv3_0 (k0 o : Nat) (q1 q2 : Value) : zev X (k + 1) y n0 ((.invokevirtual k0, x, 3, b, 0) :: c) n ls (q2 :: q1 :: .ref o :: st) H P = (zokO n o (zcI x) ∧ zsw st 8 ∧ zCall X x n [.ref o, q1, q2] H (zkn X k y n0 c n ls st P)) := rfl
theorem e_invv3_1 (k0 o : Nat) (q1 q2 : Value) : zev X (k + 1) y n0 ((.invokevirtual k0, x, 3, b, 1) :: c) n ls (q2 :: q1 :: .ref o :: st) H P = (zokO n o (zcI x) ∧ zsw st 8 ∧ zsw [.ref o, q1, q2] (zmL x) ∧ zev X k x n (blk x 0) n (zen [.ref o, q1, q2]) [] H (zkn X k y n0 c n ls st P)) := rfl
theorem e_invv4_0 (k0 o : Nat) (q1 q2 q3 : Value) : zev X (k + 1) y n0 ((.invokevirtual k0, x, 4, b, 0) :: c) n ls (q3 :: q2 :: q1 :: .ref o :: st) H P = (zokO n o (zcI x) ∧ zsw st 8 ∧ zCall X x n [.ref o, q1, q2, q3] H (zkn X k y n0 c n ls st P)) := rfl
theorem e_invv4_1 (k0 o : Nat) (q1 q2 q3 : Value) : zev X (k + 1) y n0 ((.invokevirtual k0, x, 4, b, 1) :: c) n ls (q3 :: q2 :: q1 :: .ref o :: st) H P = (zokO n o (zcI x) ∧ zsw st 8 ∧ zsw [.ref o, q1, q2, q3] (zmL x) ∧ zev X k x n (blk x 0) n (zen [.ref o, q1, q2, q3]) [] H (zkn X k y n0 c n ls st P)) := rfl
theorem e_invv5_0 (k0 o : Nat) (q1 q2 q3 q4 : Value) : zev X (k + 1) y n0 ((.invokevirtual k0, x, 5, b, 0) :: c) n ls (q4 :: q3 :: q2 :: q1 :: .ref o :: st) H P = (zokO n o (zcI x) ∧ zsw st 8 ∧ zCall X x n [.ref o, q1, q2, q3, q4] H (zkn X k y n0 c n ls st P)) := rfl
theorem e_invv5_1 (k0 o : Nat) (q1 q2 q3 q4 : Value) : zev X (k + 1) y n0 ((.invokevirtual k0, x, 5, b, 1) :: c) n ls (q4 :: q3 :: q2 :: q1 :: .ref o :: st) H P = (zokO n o (zcI x) ∧ zsw st 8 ∧ zsw [.ref o, q1, q2, q3, q4] (zmL x) ∧ zev X k x n (blk x 0) n (zen [.ref o, q1, q2, q3, q4]) [] H (zkn X k y n0 c n ls st P)) := rfl
theorem e_invs1_0 (k0 : Nat) (q1 : Value) (h8 : x ≠ 998) (h7 : x ≠ 997) : zev X (k + 1) y n0 ((.invokestatic k0, x, 1, b, 0) :: c) n ls (q1 :: st) H P = (zsw st 8 ∧ zCall X x n [q1] H (zkn X k y n0 c n ls st P)) := by
  show zwp _ _ _ _ _ _ _ _ _ _ _ = _
  unfold zwp
  simp only [if_neg h8, if_neg h7]
  rfl
theorem e_invs1_1 (k0 : Nat) (q1 : Value) (h8 : x ≠ 998) (h7 : x ≠ 997) : zev X (k + 1) y n0 ((.invokestatic k0, x, 1, b, 1) :: c) n ls (q1 :: st) H P = (zsw st 8 ∧ zsw [q1] (zmL x) ∧ zev X k x n (blk x 0) n (zen [q1]) [] H (zkn X k y n0 c n ls st P)) := by
  show zwp _ _ _ _ _ _ _ _ _ _ _ = _
  unfold zwp
  simp only [if_neg h8, if_neg h7]
  rfl
theorem e_invs2_0 (k0 : Nat) (q1 q2 : Value) (h8 : x ≠ 998) (h7 : x ≠ 997) : zev X (k + 1) y n0 ((.invokestatic k0, x, 2, b, 0) :: c) n ls (q2 :: q1 :: st) H P = (zsw st 8 ∧ zCall X x n [q1, q2] H (zkn X k y n0 c n ls st P)) := by
  show zwp _ _ _ _ _ _ _ _ _ _ _ = _
  unfold zwp
  simp only [if_neg h8, if_neg h7]
  rfl
theorem e_invs2_1 (k0 : Nat) (q1 q2 : Value) (h8 : x ≠ 998) (h7 : x ≠ 997) : zev X (k + 1) y n0 ((.invokestatic k0, x, 2, b, 1) :: c) n ls (q2 :: q1 :: st) H P = (zsw st 8 ∧ zsw [q1, q2] (zmL x) ∧ zev X k x n (blk x 0) n (zen [q1, q2]) [] H (zkn X k y n0 c n ls st P)) := by
  show zwp _ _ _ _ _ _ _ _ _ _ _ = _
  unfold zwp
  simp only [if_neg h8, if_neg h7]
  rfl
theorem e_invs3_0 (k0 : Nat) (q1 q2 q3 : Value) (h8 : x ≠ 998) (h7 : x ≠ 997) : zev X (k + 1) y n0 ((.invokestatic k0, x, 3, b, 0) :: c) n ls (q3 :: q2 :: q1 :: st) H P = (zsw st 8 ∧ zCall X x n [q1, q2, q3] H (zkn X k y n0 c n ls st P)) := by
  show zwp _ _ _ _ _ _ _ _ _ _ _ = _
  unfold zwp
  simp only [if_neg h8, if_neg h7]
  rfl
theorem e_invs3_1 (k0 : Nat) (q1 q2 q3 : Value) (h8 : x ≠ 998) (h7 : x ≠ 997) : zev X (k + 1) y n0 ((.invokestatic k0, x, 3, b, 1) :: c) n ls (q3 :: q2 :: q1 :: st) H P = (zsw st 8 ∧ zsw [q1, q2, q3] (zmL x) ∧ zev X k x n (blk x 0) n (zen [q1, q2, q3]) [] H (zkn X k y n0 c n ls st P)) := by
  show zwp _ _ _ _ _ _ _ _ _ _ _ = _
  unfold zwp
  simp only [if_neg h8, if_neg h7]
  rfl
theorem e_min (k0 : Nat) (p q : Int32) : zev X (k + 1) y n0 ((.invokestatic k0, 998, a, b, v) :: c) n ls (.int q :: .int p :: st) H P = (zsw st 8 ∧ zev X (k + 1) y n0 c n (ls) (.int (zmin p q) :: st) (H) P) := rfl
theorem e_max (k0 : Nat) (p q : Int32) : zev X (k + 1) y n0 ((.invokestatic k0, 997, a, b, v) :: c) n ls (.int q :: .int p :: st) H P = (zsw st 8 ∧ zev X (k + 1) y n0 c n (ls) (.int (zmax p q) :: st) (H) P) := rfl
theorem e_obj (k0 o : Nat) : zev X (k + 1) y n0 ((.invokespecial k0, 999, a, b, v) :: c) n ls (.ref o :: st) H P = (zsw st 8 ∧ zev X (k + 1) y n0 c n (ls) (st) (H) P) := rfl
theorem e_invi1_0 (k0 o : Nat) (h9 : x ≠ 999) : zev X (k + 1) y n0 ((.invokespecial k0, x, 1, b, 0) :: c) n ls (.ref o :: st) H P = (o < n ∧ zsw st 8 ∧ (n + zmC x ≤ n0 + zmC y ∧ zss n + zmS x ≤ zss n0 + zmS y ∧ zss (n + zmC x) = zss n + zmS x) ∧ zCall X x n [.ref o] H (zkn X k y n0 c (n + zmC x) ls st P)) := by
  show zwp _ _ _ _ _ _ _ _ _ _ _ = _
  unfold zwp
  simp only [if_neg h9]
  rfl
theorem e_invi1_2 (k0 o : Nat) (h9 : x ≠ 999) : zev X (k + 1) y n0 ((.invokespecial k0, x, 1, b, 2) :: c) n ls (.ref o :: st) H P = (o < n ∧ zsw st 8 ∧ (n + zmC x ≤ n0 + zmC y ∧ zss n + zmS x ≤ zss n0 + zmS y ∧ zss (n + zmC x) = zss n + zmS x) ∧ zCall X x n [.ref o] H (zkn X k y n0 c (n + zmC x) ls st P)) := by
  show zwp _ _ _ _ _ _ _ _ _ _ _ = _
  unfold zwp
  simp only [if_neg h9]
  rfl
theorem e_invi2_0 (k0 o : Nat) (q1 : Value) (h9 : x ≠ 999) : zev X (k + 1) y n0 ((.invokespecial k0, x, 2, b, 0) :: c) n ls (q1 :: .ref o :: st) H P = (o < n ∧ zsw st 8 ∧ (n + zmC x ≤ n0 + zmC y ∧ zss n + zmS x ≤ zss n0 + zmS y ∧ zss (n + zmC x) = zss n + zmS x) ∧ zCall X x n [.ref o, q1] H (zkn X k y n0 c (n + zmC x) ls st P)) := by
  show zwp _ _ _ _ _ _ _ _ _ _ _ = _
  unfold zwp
  simp only [if_neg h9]
  rfl
theorem e_invi2_2 (k0 o : Nat) (q1 : Value) (h9 : x ≠ 999) : zev X (k + 1) y n0 ((.invokespecial k0, x, 2, b, 2) :: c) n ls (q1 :: .ref o :: st) H P = (o < n ∧ zsw st 8 ∧ (n + zmC x ≤ n0 + zmC y ∧ zss n + zmS x ≤ zss n0 + zmS y ∧ zss (n + zmC x) = zss n + zmS x) ∧ zCall X x n [.ref o, q1] H (zkn X k y n0 c (n + zmC x) ls st P)) := by
  show zwp _ _ _ _ _ _ _ _ _ _ _ = _
  unfold zwp
  simp only [if_neg h9]
  rfl
theorem e_ireturn (q : Int32) : zev X (k + 1) y n0 ((.ireturn, x, a, b, v) :: c) n ls [.int q] H P = (zokV v (.int q) ∧ zokE y n0 n ∧ P (some (.int q)) H) := rfl
theorem e_lreturn (q : Int64) : zev X (k + 1) y n0 ((.lreturn, x, a, b, v) :: c) n ls [.long q] H P = (zokE y n0 n ∧ P (some (.long q)) H) := rfl
theorem e_areturn (q : Nat) : zev X (k + 1) y n0 ((.areturn, x, a, b, v) :: c) n ls [.ref q] H P = (zokE y n0 n ∧ P (some (.ref q)) H) := rfl
theorem e_return : zev X (k + 1) y n0 ((.return_, x, a, b, v) :: c) n ls [] H P = (zokE y n0 n ∧ P none H) := rfl
theorem k_some (w : Value) : zkn X k y n0 c n ls st P (some w) H = zev X (k + 1) y n0 c n ls (w :: st) H P := rfl
theorem k_none : zkn X k y n0 c n ls st P none H = zev X (k + 1) y n0 c n ls st H P := rfl
end ZE
/-! locals, tests, numbers: the laws by which they are read -/
theorem l_g0 (v : Value) (r : List Value) : zlg (v :: r) 0 = v := rfl
theorem l_gs (v : Value) (r : List Value) (i : Nat) : zlg (v :: r) (i + 1) = zlg r i := rfl
theorem l_s0 (u v : Value) (r : List Value) : zs1 (u :: r) 0 v = v :: r := rfl
theorem l_s1 (u v : Value) (r : List Value) : zs1 (u :: r) 1 v = zkl u :: zs1 r 0 v := rfl
theorem l_ss (u v : Value) (r : List Value) (i : Nat) : zs1 (u :: r) (i + 2) v = u :: zs1 r (i + 1) v := rfl
theorem l_sn0 (v : Value) : zs1 [] 0 v = [v] := rfl
theorem l_sns (v : Value) (i : Nat) : zs1 [] (i + 1) v = .retAddr 0 :: zs1 [] i v := rfl
theorem l_t0 (u v : Value) (r : List Value) : zs2 (u :: r) 0 v = v :: .retAddr 0 :: r.tail := rfl
theorem l_t1 (u v : Value) (r : List Value) : zs2 (u :: r) 1 v = zkl u :: zs2 r 0 v := rfl
theorem l_ts (u v : Value) (r : List Value) (i : Nat) : zs2 (u :: r) (i + 2) v = u :: zs2 r (i + 1) v := rfl
theorem l_tn0 (v : Value) : zs2 [] 0 v = [v, .retAddr 0] := rfl
theorem l_tns (v : Value) (i : Nat) : zs2 [] (i + 1) v = .retAddr 0 :: zs2 [] i v := rfl
theorem l_ki (q : Int32) : zkl (.int q) = .int q := rfl
theorem l_kr (q : Nat) : zkl (.ref q) = .ref q := rfl
theorem l_kl (q : Int64) : zkl (.long q) = .retAddr 0 := rfl
theorem l_ka (q : Nat) : zkl (.retAddr q) = .retAddr q := rfl
theorem l_en : zen [] = [] := rfl
theorem l_ei (q : Int32) (r : List Value) : zen (.int q :: r) = .int q :: zen r := rfl
theorem l_er (q : Nat) (r : List Value) : zen (.ref q :: r) = .ref q :: zen r := rfl
theorem l_el (q : Int64) (r : List Value) : zen (.long q :: r) = .long q :: .retAddr 0 :: zen r := rfl
theorem t_I (q : Int32) : zisI (.int q) = True := rfl
theorem t_L (q : Int64) : zisL (.long q) = True := rfl
theorem t_R (q : Nat) : zisR (.ref q) = True := rfl
theorem t_W0 (n : Nat) : zsw [] n = True := by cases n <;> rfl
theorem t_Wi (q : Int32) (r : List Value) (n : Nat) : zsw (.int q :: r) (n + 1) = zsw r n := rfl
theorem t_Wr (q : Nat) (r : List Value) (n : Nat) : zsw (.ref q :: r) (n + 1) = zsw r n := rfl
theorem t_Wl (q : Int64) (r : List Value) (n : Nat) : zsw (.long q :: r) (n + 2) = zsw r n := rfl
theorem t_v0 (q : Int32) : zokV 0 (.int q) = True := by simp [zokV]
theorem t_v2 (q : Int32) : zokV 2 (.int q) = (q = nI 0 ∨ q = nI 1) := by simp [zokV]
theorem t_v1 (q : Int64) : zokV 1 (.long q) = True := by simp [zokV]
theorem t_v3 (q : Nat) : zokV 3 (.ref q) = True := by simp [zokV]
theorem i_p1 (q : Int32) : zinc (.int q) 1 = .int (q + nI 1) := rfl
theorem i_m1 (q : Int32) : zinc (.int q) (-1) = .int (q - nI 1) := by
  show Value.int (q + Int32.ofInt (-1)) = .int (q - nI 1)
  have e : Int32.ofInt (-1) = -nI 1 := by decide
  rw [e, Int32.sub_eq_add_neg]
theorem t_k0 (a : Nat) : zkI 0 a = nI a := rfl
theorem t_k1 (a : Nat) : zkI 1 a = -nI a := rfl
theorem t_l0 (a : Nat) : zkL 0 a = lN a := rfl
theorem t_l1 (a : Nat) : zkL 1 a = -lN a := rfl

