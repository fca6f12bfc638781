/-! A SMALL MACHINE over a world of numbered cells: its instructions are the machine's own, with the places of their words; what it says is shown of the machine (part 05 and on) -/
abbrev zI : Type := Jvm.ClassFile.Instr × Nat × Nat × Nat × Int
abbrev zHp : Type := (Nat → Nat → Value) × (Nat → Nat → Int32) × (Nat → Nat → Int64)
abbrev zX : Type := Launch × Nat × va_G × (ClassId × ClassId × ClassId × ClassId) × (Nat × Nat × (Nat → Int32)) × Nat
def zyN (y : Nat) : MethodName := yNl.getD y ⟨"", "", ""⟩
def zcB (y : Nat) : ByteArray := cBl.getD y code
def zmL (y : Nat) : Nat := mLl.getD y 0
def zrT (y : Nat) : Option FieldType := rTl.getD y none
def zkD (y : Nat) : Nat := kDl.getD y 9
def znP (y : Nat) : Nat := nPl.getD y 0
def zmC (y : Nat) : Nat := mCl.getD y 0
def zmS (y : Nat) : Nat := mSl.getD y 0
def zcI (y : Nat) : Nat := cIl.getD y 99
def zrm (y : Nat) : Room := { frames := rFl.getD y 0, cells := mCl.getD y 0, slots := mSl.getD y 0, locals := rLl.getD y 0 }
def zpl (y : Nat) : Nat × Nat × Nat × Nat := pLl.getD y (0, 0, 0, 0)
def zcN (c : Nat) : String := cNl.getD c ""
def zTT (c : Nat) : u_T := fun k => (fDl.getD c []).getD k ("", "", "", false)
def ztY (c : Nat) : Nat → FieldType := fun k => (tYl.getD c []).getD k .int
def znF (c : Nat) : Nat := nFl.getD c 0
def zcl : List vw_C := (List.range 9).map fun c => (zcN c, zTT c, znF c)
def zsh (k : Nat) : Nat × Nat := sHl.getD k (9, 0)
def zal (k : Nat) : Nat := (zsh k).2
def zsl (k : Nat) : Nat := if (zsh k).1 = 0 then znF (zsh k).2 else (zsh k).2
def zss : Nat → Nat | 0 => 0 | k + 1 => zss k + zsl k
def zkI (x a : Nat) : Int32 := if x = 0 then nI a else -nI a
def zkL (x a : Nat) : Int64 := if x = 0 then lN a else -lN a
def zwof : Nat → Int64
  | 0 => 6148914691236517205
  | 1 => 3689348814741910323
  | 2 => 1085102592571150095
  | 3 => 71777214294589695
  | 4 => 281470681808895
  | _ => 4294967295
def zmin (p q : Int32) : Int32 := if q < p then q else p
def zmax (p q : Int32) : Int32 := if p < q then q else p
/-! locals -/
def zlg : List Value → Nat → Value
  | [], _ => .retAddr 0
  | v :: _, 0 => v
  | _ :: r, i + 1 => zlg r i
def zkl : Value → Value
  | .long _ => .retAddr 0
  | .double _ => .retAddr 0
  | v => v
def zs1 : List Value → Nat → Value → List Value
  | [], 0, v => [v]
  | [], i + 1, v => .retAddr 0 :: zs1 [] i v
  | _ :: r, 0, v => v :: r
  | u :: r, 1, v => zkl u :: zs1 r 0 v
  | u :: r, i + 2, v => u :: zs1 r (i + 1) v
def zs2 : List Value → Nat → Value → List Value
  | [], 0, v => [v, .retAddr 0]
  | [], i + 1, v => .retAddr 0 :: zs2 [] i v
  | _ :: r, 0, v => v :: .retAddr 0 :: r.tail
  | u :: r, 1, v => zkl u :: zs2 r 0 v
  | u :: r, i + 2, v => u :: zs2 r (i + 1) v
def zen : List Value → List Value
  | [] => []
  | .long q :: r => .long q :: .retAddr 0 :: zen r
  | .double q :: r => .double q :: .retAddr 0 :: zen r
  | v :: r => v :: zen r
def zisI : Value → Prop | .int _ => True | _ => False
def zisL : Value → Prop | .long _ => True | _ => False
def zisR : Value → Prop | .ref _ => True | _ => False
def zsw : List Value → Nat → Prop
  | [], _ => True
  | .long _ :: r, n + 2 => zsw r n
  | .int _ :: r, n + 1 => zsw r n
  | .ref _ :: r, n + 1 => zsw r n
  | _, _ => False
/-! the world: cells 0 .. n - 1; the script is 9001, the static array 9002 -/
def zsF (H : zHp) (o k : Nat) (v : Value) : zHp := (fun a j => if a = o ∧ j = k then v else H.1 a j, H.2.1, H.2.2)
def zsI (H : zHp) (o k : Nat) (v : Int32) : zHp := (H.1, fun a j => if a = o ∧ j = k then v else H.2.1 a j, H.2.2)
def zsL (H : zHp) (o k : Nat) (v : Int64) : zHp := (H.1, H.2.1, fun a j => if a = o ∧ j = k then v else H.2.2 a j)
def zrF (H : zHp) (o : Nat) (f : Nat → Value) : zHp := (fun a j => if a = o then f j else H.1 a j, H.2.1, H.2.2)
def zrI (H : zHp) (o : Nat) (f : Nat → Int32) : zHp := (H.1, fun a j => if a = o then f j else H.2.1 a j, H.2.2)
def zrL (H : zHp) (o : Nat) (f : Nat → Int64) : zHp := (H.1, H.2.1, fun a j => if a = o then f j else H.2.2 a j)
def zdf (c : Nat) : Nat → Value := fun k => defaultValue (ztY c k)
def zokO (n o c : Nat) : Prop := o < n ∧ zsh o = (0, c)
def zokA (n o k : Nat) : Prop := o < n ∧ (zsh o).1 = k
def zokV (v : Int) (w : Value) : Prop := match w with
  | .int q => v = 0 ∨ (v = 2 ∧ (q = nI 0 ∨ q = nI 1))
  | .long _ => v = 1
  | .ref _ => v = 3
  | _ => False
def zinR (i : Int32) (n : Nat) : Prop := vp_in i n
def zix (i : Int32) : Nat := i.toNatClampNeg
def zokN (y n0 n : Nat) : Prop := n + 1 ≤ n0 + zmC y ∧ zss (n + 1) ≤ zss n0 + zmS y
def zokE (y n0 n : Nat) : Prop := n = n0 + zmC y ∧ zss n ≤ zss n0 + zmS y
def zXL (X : zX) : Nat := X.2.2.2.2.1.2.1
def zXs (X : zX) : Nat → Int32 := X.2.2.2.2.1.2.2
/-- what a block of instructions does: P at its end, J where it jumps, K where it calls -/
def zwp (X : zX) (y n0 : Nat) (P : Option Value → zHp → Prop) (J : Nat → Int → Nat → List Value → List Value → zHp → Prop) (K : Nat → Int → Nat → List Value → zHp → (Option Value → zHp → Prop) → Prop) : List zI → Nat → List Value → List Value → zHp → Prop
  | [], _, _, _, _ => False
  | (i, x, a, b, v) :: c, n, ls, st, H => match i, st with
    | .nop, st => J x v n ls st H
    | .goto _, st => J x v n ls st H
    | .iconst _, st => zwp X y n0 P J K c n ls (.int (zkI x a) :: st) H
    | .bipush _, st => zwp X y n0 P J K c n ls (.int (zkI x a) :: st) H
    | .sipush _, st => zwp X y n0 P J K c n ls (.int (zkI x a) :: st) H
    | .ldc_w _, st => zwp X y n0 P J K c n ls (.int (zkI x a) :: st) H
    | .lconst _, st => zwp X y n0 P J K c n ls (.long (zkL x a) :: st) H
    | .ldc2_w _, st => zwp X y n0 P J K c n ls (.long (zkL x a) :: st) H
    | .iload k, st => zisI (zlg ls k) ∧ zwp X y n0 P J K c n ls (zlg ls k :: st) H
    | .iload_n k, st => zisI (zlg ls k) ∧ zwp X y n0 P J K c n ls (zlg ls k :: st) H
    | .lload k, st => zisL (zlg ls k) ∧ zwp X y n0 P J K c n ls (zlg ls k :: st) H
    | .lload_n k, st => zisL (zlg ls k) ∧ zwp X y n0 P J K c n ls (zlg ls k :: st) H
    | .aload k, st => zisR (zlg ls k) ∧ zwp X y n0 P J K c n ls (zlg ls k :: st) H
    | .aload_n k, st => zisR (zlg ls k) ∧ zwp X y n0 P J K c n ls (zlg ls k :: st) H
    | .istore k, .int q :: st => zwp X y n0 P J K c n (zs1 ls k (.int q)) st H
    | .istore_n k, .int q :: st => zwp X y n0 P J K c n (zs1 ls k (.int q)) st H
    | .lstore k, .long q :: st => zwp X y n0 P J K c n (zs2 ls k (.long q)) st H
    | .lstore_n k, .long q :: st => zwp X y n0 P J K c n (zs2 ls k (.long q)) st H
    | .astore k, .ref q :: st => zwp X y n0 P J K c n (zs1 ls k (.ref q)) st H
    | .astore_n k, .ref q :: st => zwp X y n0 P J K c n (zs1 ls k (.ref q)) st H
    | .iinc k d, st => match zlg ls k with
      | .int q => zwp X y n0 P J K c n (zs1 ls k (.int (q + Int32.ofInt d))) st H
      | _ => False
    | .iadd, .int q :: .int p :: st => zwp X y n0 P J K c n ls (.int (p + q) :: st) H
    | .isub, .int q :: .int p :: st => zwp X y n0 P J K c n ls (.int (p - q) :: st) H
    | .imul, .int q :: .int p :: st => zwp X y n0 P J K c n ls (.int (p * q) :: st) H
    | .iand, .int q :: .int p :: st => zwp X y n0 P J K c n ls (.int (p &&& q) :: st) H
    | .ior, .int q :: .int p :: st => zwp X y n0 P J K c n ls (.int (p ||| q) :: st) H
    | .ixor, .int q :: .int p :: st => zwp X y n0 P J K c n ls (.int (p ^^^ q) :: st) H
    | .idiv, .int q :: .int p :: st => ¬ q = 0 ∧ zwp X y n0 P J K c n ls (.int (p / q) :: st) H
    | .irem, .int q :: .int p :: st => ¬ q = 0 ∧ zwp X y n0 P J K c n ls (.int (p - p / q * q) :: st) H
    | .ishl, .int q :: .int p :: st => zwp X y n0 P J K c n ls (.int (p <<< (q &&& 31)) :: st) H
    | .ishr, .int q :: .int p :: st => zwp X y n0 P J K c n ls (.int (p >>> (q &&& 31)) :: st) H
    | .iushr, .int q :: .int p :: st => zwp X y n0 P J K c n ls (.int ((p.toUInt32 >>> (q.toUInt32 &&& Int32.toUInt32 31)).toInt32) :: st) H
    | .ladd, .long q :: .long p :: st => zwp X y n0 P J K c n ls (.long (p + q) :: st) H
    | .lsub, .long q :: .long p :: st => zwp X y n0 P J K c n ls (.long (p - q) :: st) H
    | .lmul, .long q :: .long p :: st => zwp X y n0 P J K c n ls (.long (p * q) :: st) H
    | .land, .long q :: .long p :: st => zwp X y n0 P J K c n ls (.long (p &&& q) :: st) H
    | .lor, .long q :: .long p :: st => zwp X y n0 P J K c n ls (.long (p ||| q) :: st) H
    | .lxor, .long q :: .long p :: st => zwp X y n0 P J K c n ls (.long (p ^^^ q) :: st) H
    | .lshl, .int q :: .long p :: st => zwp X y n0 P J K c n ls (.long (p <<< (q.toInt64 &&& 63)) :: st) H
    | .lshr, .int q :: .long p :: st => zwp X y n0 P J K c n ls (.long (p >>> (q.toInt64 &&& 63)) :: st) H
    | .lushr, .int q :: .long p :: st => zwp X y n0 P J K c n ls (.long ((p.toUInt64 >>> (q.toInt64.toUInt64 &&& Int64.toUInt64 63)).toInt64) :: st) H
    | .i2l, .int q :: st => zwp X y n0 P J K c n ls (.long q.toInt64 :: st) H
    | .l2i, .long q :: st => zwp X y n0 P J K c n ls (.int q.toInt32 :: st) H
    | .i2b, .int q :: st => zwp X y n0 P J K c n ls (.int q.toInt8.toInt32 :: st) H
    | .lcmp, .long q :: .long p :: st => zwp X y n0 P J K c n ls (.int (lg_cmp p q) :: st) H
    | .dup, .int q :: st => zwp X y n0 P J K c n ls (.int q :: .int q :: st) H
    | .dup, .ref q :: st => zwp X y n0 P J K c n ls (.ref q :: .ref q :: st) H
    | .dup2, .int q :: .ref p :: st => zwp X y n0 P J K c n ls (.int q :: .ref p :: .int q :: .ref p :: st) H
    | .ifCond .eq _, .int q :: st => if q = nI 0 then J x v n ls st H else zwp X y n0 P J K c n ls st H
    | .ifCond .ne _, .int q :: st => if q = nI 0 then zwp X y n0 P J K c n ls st H else J x v n ls st H
    | .ifCond .lt _, .int q :: st => if q < nI 0 then J x v n ls st H else zwp X y n0 P J K c n ls st H
    | .ifCond .ge _, .int q :: st => if q < nI 0 then zwp X y n0 P J K c n ls st H else J x v n ls st H
    | .ifCond .gt _, .int q :: st => if q ≤ nI 0 then zwp X y n0 P J K c n ls st H else J x v n ls st H
    | .ifCond .le _, .int q :: st => if q ≤ nI 0 then J x v n ls st H else zwp X y n0 P J K c n ls st H
    | .if_icmp .eq _, .int q :: .int p :: st => if p = q then J x v n ls st H else zwp X y n0 P J K c n ls st H
    | .if_icmp .ne _, .int q :: .int p :: st => if p = q then zwp X y n0 P J K c n ls st H else J x v n ls st H
    | .if_icmp .lt _, .int q :: .int p :: st => if p < q then J x v n ls st H else zwp X y n0 P J K c n ls st H
    | .if_icmp .ge _, .int q :: .int p :: st => if p < q then zwp X y n0 P J K c n ls st H else J x v n ls st H
    | .if_icmp .gt _, .int q :: .int p :: st => if p ≤ q then zwp X y n0 P J K c n ls st H else J x v n ls st H
    | .if_icmp .le _, .int q :: .int p :: st => if p ≤ q then J x v n ls st H else zwp X y n0 P J K c n ls st H
    | .tableswitch _ _ _ _, .int q :: st => (∀ j, j < a → q = nI j → J (x + j) v n ls st H) ∧ ((∀ j, j < a → ¬ q = nI j) → J (x + a) v n ls st H)
    | .getfield _, .ref o :: st => zokO n o x ∧ zwp X y n0 P J K c n ls (H.1 o a :: st) H
    | .putfield _, w :: .ref o :: st => zokO n o x ∧ zokV v w ∧ zwp X y n0 P J K c n ls st (zsF H o a w)
    | .getstatic _, st => zwp X y n0 P J K c n ls (.ref 9002 :: st) H
    | .iaload, .int i :: .ref o :: st =>
      if x = 1 then o = 9001 ∧ zinR i (zXL X) ∧ zwp X y n0 P J K c n ls (.int (zXs X (zix i)) :: st) H
      else zokA n o 1 ∧ zinR i (zal o) ∧ zwp X y n0 P J K c n ls (.int (H.2.1 o (zix i)) :: st) H
    | .laload, .int i :: .ref o :: st =>
      if x = 2 then o = 9002 ∧ zinR i 6 ∧ zwp X y n0 P J K c n ls (.long (zwof (zix i)) :: st) H
      else zokA n o 2 ∧ zinR i (zal o) ∧ zwp X y n0 P J K c n ls (.long (H.2.2 o (zix i)) :: st) H
    | .baload, .int i :: .ref o :: st => zokA n o 3 ∧ zinR i (zal o) ∧ zwp X y n0 P J K c n ls (.int (H.2.1 o (zix i)) :: st) H
    | .aaload, .int i :: .ref o :: st => zokA n o 4 ∧ zinR i (zal o) ∧ zisR (H.1 o (zix i)) ∧ zwp X y n0 P J K c n ls (H.1 o (zix i) :: st) H
    | .iastore, .int q :: .int i :: .ref o :: st => zokA n o 1 ∧ zinR i (zal o) ∧ zwp X y n0 P J K c n ls st (zsI H o (zix i) q)
    | .lastore, .long q :: .int i :: .ref o :: st => zokA n o 2 ∧ zinR i (zal o) ∧ zwp X y n0 P J K c n ls st (zsL H o (zix i) q)
    | .bastore, .int q :: .int i :: .ref o :: st => zokA n o 3 ∧ zinR i (zal o) ∧ zwp X y n0 P J K c n ls st (zsI H o (zix i) q.toInt8.toInt32)
    | .aastore, .ref r :: .int i :: .ref o :: st => zokA n o 4 ∧ zinR i (zal o) ∧ zokO n r 3 ∧ zwp X y n0 P J K c n ls st (zsF H o (zix i) (.ref r))
    | .arraylength, .ref o :: st =>
      if x = 1 then o = 9001 ∧ zwp X y n0 P J K c n ls (.int (nI (zXL X)) :: st) H
      else if x = 2 then o = 9002 ∧ zwp X y n0 P J K c n ls (.int (nI 6) :: st) H
      else (o < n ∧ 1 ≤ (zsh o).1 ∧ (zsh o).1 ≤ 4) ∧ zwp X y n0 P J K c n ls (.int (nI (zal o)) :: st) H
    | .new _, st => zsh n = (0, x) ∧ zokN y n0 n ∧ zwp X y n0 P J K c (n + 1) ls (.ref n :: st) (zrF H n (zdf x))
    | .newarray _, .int q :: st => (zsh n).1 = x ∧ (zal n < 100000 ∧ q = nI (zal n)) ∧ zokN y n0 n ∧ zwp X y n0 P J K c (n + 1) ls (.ref n :: st) (if x = 2 then zrL H n (fun _ => 0) else zrI H n (fun _ => 0))
    | .anewarray _, .int q :: st => (zsh n).1 = 4 ∧ (zal n < 100000 ∧ q = nI (zal n)) ∧ zokN y n0 n ∧ zwp X y n0 P J K c (n + 1) ls (.ref n :: st) (zrF H n (fun _ => .null))
    | .invokestatic _, st => if x = 998 then (match st with
        | .int q :: .int p :: st => zsw st 8 ∧ zwp X y n0 P J K c n ls (.int (zmin p q) :: st) H
        | _ => False)
      else if x = 997 then (match st with
        | .int q :: .int p :: st => zsw st 8 ∧ zwp X y n0 P J K c n ls (.int (zmax p q) :: st) H
        | _ => False)
      else (match a, st with
        | 1, q1 :: st => zsw st 8 ∧ K x v n [q1] H (fun w H => zwp X y n0 P J K c n ls (w.toList ++ st) H)
        | 2, q2 :: q1 :: st => zsw st 8 ∧ K x v n [q1, q2] H (fun w H => zwp X y n0 P J K c n ls (w.toList ++ st) H)
        | 3, q3 :: q2 :: q1 :: st => zsw st 8 ∧ K x v n [q1, q2, q3] H (fun w H => zwp X y n0 P J K c n ls (w.toList ++ st) H)
        | _, _ => False)
    | .invokevirtual _, st => match a, st with
      | 1, .ref o :: st => zokO n o (zcI x) ∧ zsw st 8 ∧ K x v n [.ref o] H (fun w H => zwp X y n0 P J K c n ls (w.toList ++ st) H)
      | 2, q1 :: .ref o :: st => zokO n o (zcI x) ∧ zsw st 8 ∧ K x v n [.ref o, q1] H (fun w H => zwp X y n0 P J K c n ls (w.toList ++ st) H)
      | 3, q2 :: q1 :: .ref o :: st => zokO n o (zcI x) ∧ zsw st 8 ∧ K x v n [.ref o, q1, q2] H (fun w H => zwp X y n0 P J K c n ls (w.toList ++ st) H)
      | 4, q3 :: q2 :: q1 :: .ref o :: st => zokO n o (zcI x) ∧ zsw st 8 ∧ K x v n [.ref o, q1, q2, q3] H (fun w H => zwp X y n0 P J K c n ls (w.toList ++ st) H)
      | 5, q4 :: q3 :: q2 :: q1 :: .ref o :: st => zokO n o (zcI x) ∧ zsw st 8 ∧ K x v n [.ref o, q1, q2, q3, q4] H (fun w H => zwp X y n0 P J K c n ls (w.toList ++ st) H)
      | _, _ => False
    | .invokespecial _, st => if x = 999 then (match st with
        | .ref _ :: st => zsw st 8 ∧ zwp X y n0 P J K c n ls st H
        | _ => False)
      else (match a, st with
        | 1, .ref o :: st => o < n ∧ zsw st 8 ∧ (n + zmC x ≤ n0 + zmC y ∧ zss n + zmS x ≤ zss n0 + zmS y ∧ zss (n + zmC x) = zss n + zmS x) ∧ K x v n [.ref o] H (fun w H => zwp X y n0 P J K c (n + zmC x) ls (w.toList ++ st) H)
        | 2, q1 :: .ref o :: st => o < n ∧ zsw st 8 ∧ (n + zmC x ≤ n0 + zmC y ∧ zss n + zmS x ≤ zss n0 + zmS y ∧ zss (n + zmC x) = zss n + zmS x) ∧ K x v n [.ref o, q1] H (fun w H => zwp X y n0 P J K c (n + zmC x) ls (w.toList ++ st) H)
        | _, _ => False)
    | .ireturn, [.int q] => zokV v (.int q) ∧ zokE y n0 n ∧ P (some (.int q)) H
    | .lreturn, [.long q] => zokE y n0 n ∧ P (some (.long q)) H
    | .areturn, [.ref q] => zokE y n0 n ∧ P (some (.ref q)) H
    | .return_, [] => zokE y n0 n ∧ P none H
    | _, _ => False
