/-! WHAT IS CHECKED OF THE PROGRAM: the decoded instructions, their words among lw_tbl, the rooms -/
def zterm : Jvm.ClassFile.Instr → Bool
  | .goto _ => true
  | .ireturn => true
  | .lreturn => true
  | .areturn => true
  | .return_ => true
  | .tableswitch _ _ _ _ => true
  | _ => false
def zty (v : Int) (t : FieldType) : Bool :=
  if v = 0 then decide (t = .int) else if v = 1 then decide (t = .long) else if v = 2 then decide (t = .boolean) else if v = 3 then (match t with | .object _ => true | .array _ => true | _ => false) else false
def zlw : List Jvm.Cond := lw_tbl.filter goodWord
def zwd (b : Nat) (w : Jvm.Cond) : Bool := goodWord w && decide (lw_tbl[b]? = some w)
def zwn (b : Nat) (w : Jvm.Cond) : Bool := decide (lw_tbl[b]? = some w)
def znw (w : Jvm.Cond) : Prop := w ∈ lw_tbl ∧ ∃ (a : String) (i : Nat) (x : MethodName) (h : String), w = .methodLinkNest a i x h
theorem zwn_mem {b : Nat} {a : String} {i : Nat} {x : MethodName} {h : String} (e : zwn b (.methodLinkNest a i x h) = true) : znw (.methodLinkNest a i x h) := ⟨List.mem_of_getElem? (of_decide_eq_true e), a, i, x, h, rfl⟩
def zoff (st : Nat → Nat) (pc : Nat) (off : Int) (t : Nat) : Bool := decide ((pc : Int) + off = (st t : Int)) && decide (st t < 999999)
/-- the words of a method that is called -/
def zmok (z : Nat) : Bool :=
  decide (z < 177) && zwd (zpl z).1 (.code (zyN z) (zcB z) (zmL z) (zrT z)) && zwd (zpl z).2.1 (.initialized (zyN z).cls) &&
  (if zkD z = 0 then zwd (zpl z).2.2.1 (.static (zyN z)) else zwd (zpl z).2.2.1 (.instanceMethod (zyN z))) &&
  (if zkD z = 1 then zwd (zpl z).2.2.2 (.selects (zyN z).cls (zyN z) (zyN z)) && decide (zcI z < 9) && decide (zcN (zcI z) = (zyN z).cls) else true) &&
  (if zkD z = 2 then decide ((zyN z).name = "<init>") && decide (zrT z = none) else true) &&
  plainName (zyN z).cls && decide ((zyN z).cls ≠ "java/lang/invoke/MethodHandle") && decide ((zyN z).cls ≠ "java/lang/invoke/VarHandle") &&
  decide ((parseMethodDescriptor (zyN z).desc).map (fun d => d.parameters.length) = some (znP z))
def zroom (y z : Nat) : Bool := decide ((zrm z).frames + 1 ≤ (zrm y).frames) && decide (8 + (zmL z + 11) + (zrm z).locals ≤ (zrm y).locals)
def zok (st : Nat → Nat) (y pc : Nat) (i : Jvm.ClassFile.Instr) (x a b : Nat) (v : Int) (n : Nat) : Bool := match i with
  | .goto off => zoff st pc off x && n == 3
  | .iconst k => decide (Int32.ofInt k = zkI x a) && n == 1
  | .bipush k => decide ((Int8.ofInt k).toInt32 = zkI x a) && n == 2
  | .sipush k => decide ((Int16.ofInt k).toInt32 = zkI x a) && n == 3
  | .ldc_w k => zwd b (.constant (zyN y).cls k (zkI x a)) && n == 3
  | .lconst k => decide (Int64.ofNat (k : Nat) = zkL x a) && n == 1
  | .ldc2_w k => zwd b (.constantLong (zyN y).cls k (zkL x a)) && n == 3
  | .iload _ => n == 2
  | .lload _ => n == 2
  | .aload _ => n == 2
  | .istore k => decide (k < zmL y) && n == 2
  | .lstore k => decide (k + 1 < zmL y) && n == 2
  | .astore k => decide (k < zmL y) && n == 2
  | .istore_n k => decide ((k : Nat) < zmL y) && n == 1
  | .lstore_n k => decide ((k : Nat) + 1 < zmL y) && n == 1
  | .astore_n k => decide ((k : Nat) < zmL y) && n == 1
  | .iinc k _ => decide (k < zmL y) && n == 3
  | .ifCond _ off => zoff st pc off x && n == 3
  | .if_icmp _ off => zoff st pc off x && n == 3
  | .tableswitch d lo hi offs => decide (lo = 0) && decide (hi + 1 = (a : Int)) && decide (a < 100000) && zoff st pc d (x + a) && (List.range a).all (fun j => match offs[j]? with | some o => zoff st pc o (x + j) | none => false)
  | .getfield k => decide (x < 9) && decide (a < znF x) && zwd b (.fieldLink (zyN y).cls k (zTT x a).1 (zTT x a).2.1 (zTT x a).2.2.1) && n == 3
  | .putfield k => decide (x < 9) && decide (a < znF x) && zwd b (.fieldLink (zyN y).cls k (zTT x a).1 (zTT x a).2.1 (zTT x a).2.2.1) && zty v (ztY x a) && (if (zTT x a).2.2.2 = true then decide ((zyN y).name = "<init>") && decide ((zTT x a).1 = (zyN y).cls) else true) && n == 3
  | .getstatic k => zwd b (.fieldLink (zyN y).cls k "CubeSnakes$CornerSet" "WITHOUT" "[J") && n == 3
  | .new k => decide (x < 9) && zwd b (.classLink (zyN y).cls k (zcN x)) && n == 3
  | .newarray t => (match t with | .int => x == 1 | .long => x == 2 | .byte => x == 3 | _ => false) && n == 2
  | .anewarray k => zwd b (.classLink (zyN y).cls k "CubeSnakes$Rope") && n == 3
  | .invokestatic k => if x = 998 then zwd b (.methodLink (zyN y).cls k Lib.Math.min.name) && decide (1 ≤ (zrm y).frames) && decide (21 ≤ (zrm y).locals) && n == 3
    else if x = 997 then zwd b (.methodLink (zyN y).cls k Lib.Math.max.name) && decide (1 ≤ (zrm y).frames) && decide (21 ≤ (zrm y).locals) && n == 3
    else zwd b (.methodLink (zyN y).cls k (zyN x)) && zmok x && zkD x == 0 && a == znP x && zroom y x && zmC x == 0 && zmS x == 0 && n == 3
  | .invokevirtual k => zwd b (.methodLink (zyN y).cls k (zyN x)) && zmok x && zkD x == 1 && a == znP x + 1 && zroom y x && zmC x == 0 && zmS x == 0 && n == 3
  | .invokespecial k => n == 3 && (if x = 999 then zwd b (.methodLink (zyN y).cls k objectInit) && decide (1 ≤ (zrm y).frames) && decide (20 ≤ (zrm y).locals)
      else (if v = 2 || v = 3 then zwn b (.methodLinkNest (zyN y).cls k (zyN x) "CubeSnakes") else zwd b (.methodLink (zyN y).cls k (zyN x))) && zmok x && zkD x == 2 && a == znP x + 1 && zroom y x)
  | .ireturn => ((decide (zrT y = some .int) && decide (v = 0)) || (decide (zrT y = some .boolean) && decide (v = 2))) && n == 1
  | .lreturn => decide (zrT y = some .long) && n == 1
  | .areturn => decide (zrT y = some (.object "CubeSnakes$Rope")) && n == 1
  | .return_ => decide (zrT y = none) && n == 1
  | _ => n == 1
def zat (st : Nat → Nat) (y : Nat) : Nat → List zI → Bool
  | _, [] => false
  | pc, (i, x, a, b, v) :: c => match i with
    | .nop => st x == pc && decide (pc < 999999)
    | _ => match decode (zcB y) pc with
      | .ok (j, n) => decide (i = j) && zok st y pc i x a b v n && (zterm i || zat st y (pc + n) c)
      | .error _ => false
theorem zat_nop {st : Nat → Nat} {y pc x a b : Nat} {v : Int} {c : List zI} (h : zat st y pc ((.nop, x, a, b, v) :: c) = true) : st x = pc ∧ pc < 999999 := by
  simpa [zat] using h
theorem zat_cons {st : Nat → Nat} {y pc x a b : Nat} {v : Int} {c : List zI} {i : Jvm.ClassFile.Instr} (hi : i ≠ .nop) (h : zat st y pc ((i, x, a, b, v) :: c) = true) :
    ∃ n, decode (zcB y) pc = .ok (i, n) ∧ zok st y pc i x a b v n = true ∧ (zterm i = false → zat st y (pc + n) c = true) := by
  unfold zat at h
  split at h
  · exact absurd rfl hi
  · split at h
    · rename_i j n hd
      simp only [Bool.and_eq_true, Bool.or_eq_true, decide_eq_true_eq] at h
      obtain ⟨⟨rfl, h2⟩, h3⟩ := h
      exact ⟨n, hd, h2, fun ht => by rcases h3 with h3 | h3; · rw [ht] at h3; cases h3
                                     · exact h3⟩
    · cases h
theorem zlw_of {w : Jvm.Cond} (h : w ∈ lw_tbl) (g : goodWord w = true) : w ∈ zlw := List.mem_filter.mpr ⟨h, g⟩
theorem zwd_mem {b : Nat} {w : Jvm.Cond} (h : zwd b w = true) : w ∈ zlw := by
  unfold zwd at h
  simp only [Bool.and_eq_true] at h
  exact zlw_of (List.mem_of_getElem? (of_decide_eq_true h.2)) h.1
/-! what holds of all classes and words -/
theorem zgoodIn (ws : List Jvm.Cond) (h : ∀ w ∈ ws, w ∈ zlw) : GoodIn zlw ws := fun w hw => ⟨h w hw, good_of_word (List.mem_filter.mp (h w hw)).2⟩
theorem zcl_at {c : Nat} (h : c < 9) : zcl[c]? = some (zcN c, zTT c, znF c) := by
  simp [zcl, h]
theorem zty_ok : ∀ c, c < 9 → ∀ k, k < znF c → parseFieldDescriptor (zTT c k).2.2.1 = some (ztY c k) := by decide +kernel
theorem znm_ok : ∀ c, c < 9 → ∀ a, a < znF c → ∀ b, b < znF c → a ≠ b → (zTT c a).2.1 ≠ (zTT c b).2.1 := by decide +kernel
theorem zin_ok0 : ∀ c, c < 9 → ∀ w ∈ u_ws (zcN c) (zTT c) (znF c), w ∈ lw_tbl ∧ goodWord w = true := by decide +kernel
theorem zin_ok : ∀ c, c < 9 → ∀ w ∈ u_ws (zcN c) (zTT c) (znF c), w ∈ zlw := fun c hc w hw => zlw_of (zin_ok0 c hc w hw).1 (zin_ok0 c hc w hw).2
theorem zinst_ok0 : ∀ c, c < 9 → (Jvm.Cond.instantiable (zcN c) (znF c) ∈ lw_tbl ∧ Jvm.Cond.initialized (zcN c) ∈ lw_tbl) ∧ goodWord (Jvm.Cond.instantiable (zcN c) (znF c)) = true ∧ goodWord (Jvm.Cond.initialized (zcN c)) = true := by decide +kernel
theorem zinst_ok (c : Nat) (hc : c < 9) : Jvm.Cond.instantiable (zcN c) (znF c) ∈ zlw ∧ Jvm.Cond.initialized (zcN c) ∈ zlw := ⟨zlw_of (zinst_ok0 c hc).1.1 (zinst_ok0 c hc).2.1, zlw_of (zinst_ok0 c hc).1.2 (zinst_ok0 c hc).2.2⟩
theorem zarr_ok0 : (Jvm.Cond.arrayClass .int ∈ lw_tbl ∧ Jvm.Cond.arrayClass .long ∈ lw_tbl ∧ Jvm.Cond.arrayClass .byte ∈ lw_tbl) ∧ Jvm.Cond.arrayOver (.object "CubeSnakes$Rope") ∈ lw_tbl := by decide +kernel
theorem zarr_ok : Jvm.Cond.arrayClass .int ∈ zlw ∧ Jvm.Cond.arrayClass .long ∈ zlw ∧ Jvm.Cond.arrayClass .byte ∈ zlw := ⟨zlw_of zarr_ok0.1.1 rfl, zlw_of zarr_ok0.1.2.1 rfl, zlw_of zarr_ok0.1.2.2 rfl⟩
theorem zobj_ok0 : (Jvm.Cond.instanceMethod objectInit ∈ lw_tbl ∧ Jvm.Cond.code objectInit ⟨#[0xb1]⟩ 1 none ∈ lw_tbl) ∧ goodWord (Jvm.Cond.instanceMethod objectInit) = true ∧ goodWord (Jvm.Cond.code objectInit ⟨#[0xb1]⟩ 1 none) = true := by decide +kernel
theorem zobj_ok : Jvm.Cond.instanceMethod objectInit ∈ zlw ∧ Jvm.Cond.code objectInit ⟨#[0xb1]⟩ 1 none ∈ zlw := ⟨zlw_of zobj_ok0.1.1 zobj_ok0.2.1, zlw_of zobj_ok0.1.2 zobj_ok0.2.2⟩
theorem zstat_ok : Jvm.Cond.laysStatic "CubeSnakes$CornerSet" "WITHOUT" "[J" ∈ lw_tbl ∧ Jvm.Cond.initialized "CubeSnakes$CornerSet" ∈ lw_tbl := by decide +kernel
theorem zmath_ok0 : (Jvm.Cond.static Lib.Math.min.name ∈ lw_tbl ∧ Jvm.Cond.static Lib.Math.max.name ∈ lw_tbl ∧ Jvm.Cond.code Lib.Math.min.name Lib.Math.min.code 2 (some .int) ∈ lw_tbl ∧ Jvm.Cond.code Lib.Math.max.name Lib.Math.max.code 2 (some .int) ∈ lw_tbl ∧ Jvm.Cond.initialized "java/lang/Math" ∈ lw_tbl) := by decide +kernel
theorem zmath_ok : Jvm.Cond.static Lib.Math.min.name ∈ zlw ∧ Jvm.Cond.static Lib.Math.max.name ∈ zlw ∧ Jvm.Cond.code Lib.Math.min.name Lib.Math.min.code 2 (some .int) ∈ zlw ∧ Jvm.Cond.code Lib.Math.max.name Lib.Math.max.code 2 (some .int) ∈ zlw ∧ Jvm.Cond.initialized "java/lang/Math" ∈ zlw := ⟨zlw_of zmath_ok0.1 rfl, zlw_of zmath_ok0.2.1 rfl, zlw_of zmath_ok0.2.2.1 rfl, zlw_of zmath_ok0.2.2.2.1 rfl, zlw_of zmath_ok0.2.2.2.2 rfl⟩
