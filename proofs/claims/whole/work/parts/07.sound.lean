/-! THE SMALL MACHINE IS SOUND: what zwp says of a block of instructions is what the machine does -/
def zl (X : zX) : Launch := X.1
def zN (X : zX) : Nat := X.2.1
def zD (X : zX) : va_G := X.2.2.1
def zcs (X : zX) : ClassId × ClassId × ClassId × ClassId := X.2.2.2.1
def zb (X : zX) : Nat := X.2.2.2.2.1.1
def zw (X : zX) : Nat := X.2.2.2.2.2
def zad (X : zX) (k : Nat) : Nat := if k = 9001 then zb X else if k = 9002 then zw X else zN X + k
def zmv (X : zX) : Value → Value
  | .ref k => .ref (zad X k)
  | v => v
def ztys (X : zX) : List (ClassId × FieldType) := [((zcs X).1, .int), ((zcs X).2.1, .long), ((zcs X).2.2.1, .byte), ((zcs X).2.2.2, .object "CubeSnakes$Rope")]
def zrO : Value → Option Nat
  | .ref a => some a
  | _ => none
def zceK (X : zX) (k1 k2 : Nat) (F : Nat → Value) (I : Nat → Int32) (L : Nat → Int64) : va_E :=
  if k1 = 0 then .inr (k2, (List.range (znF k2)).map fun j => zmv X (F j))
  else if k1 = 1 then .inl ((zcs X).1, k2, .inl I)
  else if k1 = 2 then .inl ((zcs X).2.1, k2, .inr (.inl L))
  else if k1 = 3 then .inl ((zcs X).2.2.1, k2, .inl I)
  else .inl ((zcs X).2.2.2, k2, .inr (.inr (.inr (.inr (fun j => zrO (zmv X (F j)))))))
def zce (X : zX) (H : zHp) (k : Nat) : va_E := zceK X (zsh k).1 (zsh k).2 (H.1 k) (H.2.1 k) (H.2.2 k)
def zWR (X : zX) (n : Nat) (H : zHp) (Hm : Heap) : Prop := Hm.size = zN X + n ∧ n ≤ 100 ∧ ∀ k, k < n → va_at (zD X) zcl (zN X + k, zce X H k) Hm
def zA (X : zX) : Nat → Prop := fun q => zN X ≤ q
def zB (X : zX) (U : State) (Hm : Heap) : Prop := va_K (zD X) zcl (ztys X) U ∧ va_AO "CubeSnakes$Rope" U ∧ va_Z "CubeSnakes$CornerSet" "WITHOUT" "[J" (.ref (zw X)) (zA X) U Hm ∧ va_T .long (zw X) 6 (fun j => .long (zwof j)) (zA X) U Hm ∧ va_X (zb X) (zXL X) (zXs X) U Hm ∧ zb X < zN X ∧ zN X ≤ Hm.size ∧ ∀ w, znw w → va_Nw w U
theorem zB_warm {X : zX} {u U : State} {Hm : Heap} (hW : u.WarmedH U.vm) (h : zB X u Hm) : zB X U Hm :=
  ⟨va_K.moved hW.alike h.1, va_AO.moved hW.alike h.2.1, va_Z.moved hW.alike h.2.2.1, va_T.moved hW.alike h.2.2.2.1, va_X.moved hW.alike h.2.2.2.2.1, h.2.2.2.2.2.1, h.2.2.2.2.2.2.1, fun w hw => by
    obtain ⟨h1, a, i, x, hh, rfl⟩ := id hw
    exact va_Nw.warmM hW (h.2.2.2.2.2.2.2 _ hw)⟩
theorem zB_same {X : zX} {u U : State} {Hm : Heap} (hW : u.vm = U.vm) (ha : u.vm.Alike U.vm) (h : zB X u Hm) : zB X U Hm :=
  ⟨va_K.moved ha h.1, va_AO.moved ha h.2.1, va_Z.moved ha h.2.2.1, va_T.moved ha h.2.2.2.1, va_X.moved ha h.2.2.2.2.1, h.2.2.2.2.2.1, h.2.2.2.2.2.2.1, fun w hw => by
    obtain ⟨h1, a, i, x, hh, rfl⟩ := id hw
    exact va_Nw.same rfl hW (h.2.2.2.2.2.2.2 _ hw)⟩
theorem zB_kept {X : zX} {U : State} {Hm H1 : Heap} (h : zB X U Hm) (hz : Hm.size ≤ H1.size) (hq : ∀ q, q < Hm.size → ¬ zA X q → H1[q]? = Hm[q]?) : zB X U H1 :=
  ⟨h.1, h.2.1, h.2.2.1.kept hq, h.2.2.2.1.kept hq, h.2.2.2.2.1.kept (hq _ (Nat.lt_of_lt_of_le h.2.2.2.2.2.1 h.2.2.2.2.2.2.1) (Nat.not_le.mpr h.2.2.2.2.2.1)), h.2.2.2.2.2.1, Nat.le_trans h.2.2.2.2.2.2.1 hz, h.2.2.2.2.2.2.2⟩
def zPc (X : zX) (n : Nat) (H : zHp) (As : List Value) : Array Value → State → Prop := fun a U => a = (As.map (zmv X)).toArray ∧ zWR X n H U.heap ∧ zB X U U.heap
def zQc (X : zX) (n : Nat) (P : Option Value → zHp → Prop) : Array Value → State → Outcome → State → Prop := fun _ st o t => (∃ (v : Option Value) (H' : zHp), o = .returned (v.map (zmv X)) ∧ P v H' ∧ zWR X n H' t.heap) ∧ va_F (zA X) st t
def zws (z : Nat) : List Jvm.Cond := Jvm.Cond.code (zyN z) (zcB z) (zmL z) (zrT z) :: zlw
/-- a call of z with these arguments comes to an end, with an answer and a world of Q -/
def zCall (X : zX) (z n : Nat) (As : List Value) (H : zHp) (Q : Option Value → zHp → Prop) : Prop :=
  Met (zl X) (zyN z) (zws z) (zrm z) (zPc X n H As) (zQc X (n + zmC z) Q) (zmC z) (zmS z) (zA X)
def zAct (X : zX) (y n0 : Nat) (p : Program) (s : State) (m : MethodId) (args : Array Value) (meth : Method) (c0 : Code) : Prop :=
  p.tables.exec = Jvm.exec ∧ c0.code = zcB y ∧ meth.sig.returnType = zrT y ∧ c0.maxLocals = zmL y ∧ (∀ w ∈ zlw, w.before args s = true) ∧ s.vm.findClass (zyN y).cls = some m.cls ∧ meth.locks = false ∧ meth.name = (zyN y).name ∧ zB X s s.heap ∧ s.heap.size = zN X + n0
def zlR (X : zX) (lsA : Array Slot) (nL : Nat) (ls : List Value) : Prop := ∃ lv : List (Nat × Value), lv_has lsA nL lv ∧ ∀ i, zlg ls i ≠ .retAddr 0 → (i, zmv X (zlg ls i)) ∈ lv
def zSt (X : zX) (y n0 n : Nat) (s : State) (lsA : Array Slot) (ls : List Value) (H : zHp) (Hm : Heap) (locs : List Loc) : Prop :=
  zlR X lsA (zmL y) ls ∧ zWR X n H Hm ∧ va_S (zA X) s.heap Hm locs ∧ n0 ≤ n ∧ zss n0 ≤ zss n ∧ n ≤ n0 + zmC y ∧ zss n ≤ zss n0 + zmS y
abbrev zGo (X : zX) (y n0 n : Nat) (P : Option Value → zHp → Prop) (p : Program) (e : Env) (s : State) (m : MethodId) (args : Array Value) (below : List Frame) (meth : Method) (c0 : Code) (pc : Nat) (lsA : Array Slot) (st : List Value) (Hm : Heap) (locs : List Loc) : Prop :=
  W p (zl X) e (zrm y) s m args below meth c0 Hm locs (n - n0) (zss n - zss n0) (MQ below (zQc X (n0 + zmC y) P) args s (zmC y) (zmS y) (zA X)) (F0 m pc lsA (st.map (zmv X)))
/-- from this block of y, with these locals, stack and world, y comes to its end with an answer and a world of P -/
def zRun (X : zX) (y n0 n : Nat) (c : List zI) (ls st : List Value) (H : zHp) (P : Option Value → zHp → Prop) : Prop :=
  zmt y = true → ∀ (p : Program) (e : Env) (s : State) (m : MethodId) (args : Array Value) (below : List Frame) (meth : Method) (c0 : Code), zAct X y n0 p s m args meth c0 →
    ∀ pc : Nat, zat (zst y) y pc c = true → ∀ (lsA : Array Slot) (Hm : Heap) (locs : List Loc), zSt X y n0 n s lsA ls H Hm locs → zGo X y n0 n P p e s m args below meth c0 pc lsA st Hm locs
section ZS
variable {X : zX} {y n0 n n' : Nat} {P : Option Value → zHp → Prop} {ls ls' st st' : List Value} {H H' : zHp} {i : Jvm.ClassFile.Instr} {x a b : Nat} {v : Int} {c : List zI}
theorem zs_of (hi : i ≠ .nop) (ht : zterm i = false) (ih : zRun X y n0 n' c ls' st' H' P)
    (row : ∀ (p : Program) (e : Env) (s : State) (m : MethodId) (args : Array Value) (below : List Frame) (meth : Method) (c0 : Code), zAct X y n0 p s m args meth c0 → ∀ pc k : Nat, decode (zcB y) pc = .ok (i, k) → zok (zst y) y pc i x a b v k = true →
      ∀ (lsA : Array Slot) (Hm : Heap) (locs : List Loc), zSt X y n0 n s lsA ls H Hm locs → (∀ (lsA' : Array Slot) (Hm' : Heap) (locs' : List Loc), zSt X y n0 n' s lsA' ls' H' Hm' locs' → zGo X y n0 n' P p e s m args below meth c0 (pc + k) lsA' st' Hm' locs') →
      zGo X y n0 n P p e s m args below meth c0 pc lsA st Hm locs) : zRun X y n0 n ((i, x, a, b, v) :: c) ls st H P := by
  intro hm p e s m args below meth c0 hA pc hat lsA Hm locs hS
  obtain ⟨k, hd, hk, hc⟩ := zat_cons hi hat
  exact row p e s m args below meth c0 hA pc k hd hk lsA Hm locs hS (fun lsA' Hm' locs' hS' => ih hm p e s m args below meth c0 hA (pc + k) (hc ht) lsA' Hm' locs' hS')
theorem zlR_get {lsA : Array Slot} {nL i : Nat} {v : Value} (h : zlR X lsA nL ls) (hv : zlg ls i = v) (hn : v ≠ .retAddr 0) : lsA[i]? = some (.val (zmv X v)) := by
  obtain ⟨lv, h1, h2⟩ := h
  subst hv
  exact h1.2.2 _ (h2 i hn)
theorem zkl_ne {u : Value} (h : zkl u ≠ .retAddr 0) : zkl u = u ∧ u.category ≠ 2 := by
  cases u <;> simp_all [zkl, Value.category]
theorem zlg_nil (j : Nat) : zlg [] j = .retAddr 0 := by cases j <;> rfl
theorem zs1_get : ∀ (i : Nat) (ls : List Value) (v : Value) (j : Nat), zlg (zs1 ls i v) j = if j = i then v else if j + 1 = i then zkl (zlg ls j) else zlg ls j := by
  intro i
  induction i with
  | zero =>
    intro ls v j
    cases ls with
    | nil => cases j <;> simp [zs1, zlg, zlg_nil]
    | cons u r => cases j <;> simp [zs1, zlg]
  | succ i ih =>
    intro ls v j
    cases ls with
    | nil =>
      cases j with
      | zero => cases i <;> simp [zs1, zlg, zkl]
      | succ j =>
        have h := ih [] v j
        simp only [zs1, zlg, h, zlg_nil]
        by_cases h1 : j = i
        · simp [h1]
        · simp [h1]
    | cons u r =>
      cases i with
      | zero =>
        cases j with
        | zero => simp [zs1, zlg]
        | succ j =>
          have h := ih r v j
          simp only [zs1, zlg, h]
          by_cases h1 : j = 0
          · simp [h1]
          · simp [h1]
      | succ i =>
        cases j with
        | zero => simp [zs1, zlg]
        | succ j =>
          have h := ih r v j
          simp only [zs1, zlg, h]
          by_cases h1 : j = i + 1
          · simp [h1]
          · by_cases h2 : j + 1 = i + 1
            · simp [h2, h1]
            · have h3 : ¬ j = i := by omega
              simp [h1, h3]
theorem zs2_get : ∀ (i : Nat) (ls : List Value) (v : Value) (j : Nat), zlg (zs2 ls i v) j = if j = i then v else if j = i + 1 then .retAddr 0 else if j + 1 = i then zkl (zlg ls j) else zlg ls j := by
  intro i
  induction i with
  | zero =>
    intro ls v j
    match ls with
    | [] => match j with
      | 0 => simp [zs2, zlg]
      | 1 => simp [zs2, zlg]
      | j + 2 => simp [zs2, zlg, zlg_nil]
    | [u] => match j with
      | 0 => simp [zs2, zlg]
      | 1 => simp [zs2, zlg]
      | j + 2 => simp [zs2, zlg, zlg_nil]
    | u :: w :: r => match j with
      | 0 => simp [zs2, zlg]
      | 1 => simp [zs2, zlg]
      | j + 2 => simp [zs2, zlg]
  | succ i ih =>
    intro ls v j
    cases ls with
    | nil =>
      cases j with
      | zero => cases i <;> simp [zs2, zlg, zkl]
      | succ j =>
        have h := ih [] v j
        simp only [zs2, zlg, h, zlg_nil]
        by_cases h1 : j = i
        · simp [h1]
        · by_cases h2 : j = i + 1
          · simp [h2]
          · simp [h1, h2]
    | cons u r =>
      cases i with
      | zero =>
        cases j with
        | zero => simp [zs2, zlg]
        | succ j =>
          have h := ih r v j
          simp only [zs2, zlg, h]
          by_cases h1 : j = 0
          · simp [h1]
          · by_cases h2 : j = 1
            · simp [h2]
            · simp [h1, h2]
      | succ i =>
        cases j with
        | zero => simp [zs2, zlg]
        | succ j =>
          have h := ih r v j
          simp only [zs2, zlg, h]
          by_cases h1 : j = i + 1
          · simp [h1]
          · by_cases h4 : j = i + 2
            · simp [h4]
            · by_cases h2 : j = i
              · have h5 : ¬ i = i + 1 + 1 := by omega
                simp [h2, h5]
              · simp [h1, h2, h4]
theorem zlR_s1 {X : zX} {lsA : Array Slot} {nL i : Nat} {ls : List Value} {lv : List (Nat × Value)} {v : Value} (h2 : ∀ j, zlg ls j ≠ .retAddr 0 → (j, zmv X (zlg ls j)) ∈ lv)
    (h : lv_has lsA nL ((i, zmv X v) :: lv.filter (fun q => !(q.1 == i) && !(q.1 + 1 == i && q.2.category == 2)))) : zlR X lsA nL (zs1 ls i v) := by
  refine ⟨_, h, fun j hj => ?_⟩
  rw [zs1_get] at hj ⊢
  by_cases h1 : j = i
  · subst h1
    simp
  · rw [if_neg h1] at hj ⊢
    refine List.mem_cons_of_mem _ (List.mem_filter.mpr ?_)
    by_cases h3 : j + 1 = i
    · rw [if_pos h3] at hj ⊢
      obtain ⟨e1, e2⟩ := zkl_ne hj
      rw [e1] at hj ⊢
      refine ⟨h2 j hj, ?_⟩
      have e3 : ¬ (zmv X (zlg ls j)).category = 2 := by
        cases hz : zlg ls j <;> rw [hz] at e2 <;> simp_all [zmv, Value.category]
      simp [h1, e3]
    · rw [if_neg h3] at hj ⊢
      exact ⟨h2 j hj, by simp [h1, h3]⟩
theorem zlR_s2 {X : zX} {lsA : Array Slot} {nL i : Nat} {ls : List Value} {lv : List (Nat × Value)} {v : Value} (h2 : ∀ j, zlg ls j ≠ .retAddr 0 → (j, zmv X (zlg ls j)) ∈ lv)
    (h : lv_has lsA nL ((i, zmv X v) :: lv.filter (fun q => !(q.1 == i) && (!(q.1 == i + 1) && !(q.1 + 1 == i && q.2.category == 2))))) : zlR X lsA nL (zs2 ls i v) := by
  refine ⟨_, h, fun j hj => ?_⟩
  rw [zs2_get] at hj ⊢
  by_cases h1 : j = i
  · subst h1
    simp
  · rw [if_neg h1] at hj ⊢
    by_cases h4 : j = i + 1
    · rw [if_pos h4] at hj
      exact absurd rfl hj
    rw [if_neg h4] at hj ⊢
    refine List.mem_cons_of_mem _ (List.mem_filter.mpr ?_)
    by_cases h3 : j + 1 = i
    · rw [if_pos h3] at hj ⊢
      obtain ⟨e1, e2⟩ := zkl_ne hj
      rw [e1] at hj ⊢
      refine ⟨h2 j hj, ?_⟩
      have e3 : ¬ (zmv X (zlg ls j)).category = 2 := by
        cases hz : zlg ls j <;> rw [hz] at e2 <;> simp_all [zmv, Value.category]
      simp [h1, h4, e3]
    · rw [if_neg h3] at hj ⊢
      exact ⟨h2 j hj, by simp [h1, h3, h4]⟩
theorem zen_args (X : zX) : ∀ (As : List Value) (k j : Nat), zlg (zen As) j ≠ .retAddr 0 → (k + j, zmv X (zlg (zen As) j)) ∈ lv_args k (As.map (zmv X)) := by
  intro As
  induction As with
  | nil => intro k j h; exact absurd (zlg_nil j) h
  | cons u r ih =>
    intro k j h
    by_cases hu : ∃ q, u = .long q
    · obtain ⟨q, rfl⟩ := hu
      match j with
      | 0 => simp [zen, zlg, lv_args]
      | 1 => exact absurd rfl h
      | j + 2 =>
        have := ih (k + 2) j h
        simp only [zen, zlg, List.map_cons, lv_args, zmv, Value.category, if_true]
        refine List.mem_cons_of_mem _ ?_
        rw [show k + (j + 2) = k + 2 + j by omega]
        exact this
    · by_cases hd : ∃ q, u = .double q
      · obtain ⟨q, rfl⟩ := hd
        match j with
        | 0 => simp [zen, zlg, lv_args]
        | 1 => exact absurd rfl h
        | j + 2 =>
          have := ih (k + 2) j h
          simp only [zen, zlg, List.map_cons, lv_args, zmv, Value.category, if_true]
          refine List.mem_cons_of_mem _ ?_
          rw [show k + (j + 2) = k + 2 + j by omega]
          exact this
      · have he : zen (u :: r) = u :: zen r := by cases u <;> first | rfl | exact absurd ⟨_, rfl⟩ hu | exact absurd ⟨_, rfl⟩ hd
        have hc : ¬ (zmv X u).category = 2 := by cases u <;> simp_all [zmv, Value.category]
        rw [he] at h ⊢
        match j with
        | 0 => simp [zlg, lv_args]
        | j + 1 =>
          have := ih (k + 1) j h
          simp only [zlg, List.map_cons, lv_args, hc, if_false]
          refine List.mem_cons_of_mem _ ?_
          rw [show k + (j + 1) = k + 1 + j by omega]
          exact this
end ZS
