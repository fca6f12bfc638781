/-! cells: what is read, what is written, what is new -/
section ZH
variable {X : zX} {y n0 n n' : Nat} {P : Option Value → zHp → Prop} {ls ls' st st' : List Value} {H H' : zHp} {x a b : Nat} {v : Int} {c : List zI}
theorem zad_lt {k : Nat} (h : k < n) (hn : n ≤ 100) : zad X k = zN X + k := by
  unfold zad
  rw [if_neg (by omega), if_neg (by omega)]
theorem zWR_at {Hm : Heap} {o : Nat} (h : zWR X n H Hm) (ho : o < n) : va_P (zD X) zcl [(zN X + o, zce X H o)] Hm := by
  intro k q hk
  match k, hk with
  | 0, hk => cases hk; exact h.2.2 o ho
theorem zce_obj {o k2 : Nat} (h : zsh o = (0, k2)) : zce X H o = .inr (k2, (List.range (znF k2)).map fun j => zmv X (H.1 o j)) := by
  simp [zce, zceK, h]
theorem zce_1 {o : Nat} (h : (zsh o).1 = 1) : zce X H o = .inl ((zcs X).1, zal o, .inl (H.2.1 o)) := by
  simp [zce, zceK, h, zal]
theorem zce_2 {o : Nat} (h : (zsh o).1 = 2) : zce X H o = .inl ((zcs X).2.1, zal o, .inr (.inl (H.2.2 o))) := by
  simp [zce, zceK, h, zal]
theorem zce_3 {o : Nat} (h : (zsh o).1 = 3) : zce X H o = .inl ((zcs X).2.2.1, zal o, .inl (H.2.1 o)) := by
  simp [zce, zceK, h, zal]
theorem zce_4 {o : Nat} (h : (zsh o).1 = 4) : zce X H o = .inl ((zcs X).2.2.2, zal o, .inr (.inr (.inr (.inr (fun j => zrO (zmv X (H.1 o j))))))) := by
  simp [zce, zceK, h, zal]
/-- the world behind one changed cell -/
theorem zWR_put {Hm H1 : Heap} {o : Nat} (h : zWR X n H Hm) (ho : o < n) (hsz : H1.size = Hm.size) (hoq : ∀ q : Nat, q ≠ zN X + o → H1[q]? = Hm[q]?) (he : va_at (zD X) zcl (zN X + o, zce X H' o) H1) (hk : ∀ k, k ≠ o → zce X H' k = zce X H k) : zWR X n H' H1 := by
  refine ⟨hsz.trans h.1, h.2.1, fun k hk2 => ?_⟩
  by_cases e : k = o
  · subst e; exact he
  · rw [hk k e]
    exact (h.2.2 k hk2).kept (hoq _ (by simpa using e))
theorem zWR_new {Hm H1 : Heap} (h : zWR X n H Hm) (hn : n + 1 ≤ 100) (hsz : H1.size = Hm.size + 1) (hoq : ∀ q : Nat, q < Hm.size → H1[q]? = Hm[q]?) (he : va_at (zD X) zcl (zN X + n, zce X H' n) H1) (hk : ∀ k, k ≠ n → zce X H' k = zce X H k) : zWR X (n + 1) H' H1 := by
  refine ⟨by rw [hsz, h.1]; omega, hn, fun k hk2 => ?_⟩
  by_cases e : k = n
  · subst e; exact he
  · rw [hk k e]
    exact (h.2.2 k (by omega)).kept (hoq _ (by rw [h.1]; simp; omega))
theorem zSt_put {s : State} {lsA : Array Slot} {Hm H1 : Heap} {locs : List Loc} {o k : Nat} (h : zSt X y n0 n s lsA ls H Hm locs) (hsz : H1.size = Hm.size) (hoq : ∀ q : Nat, q ≠ zN X + o → H1[q]? = Hm[q]?) (hW : zWR X n H' H1) : zSt X y n0 n s lsA ls H' H1 (locs ++ [⟨zN X + o, k⟩]) :=
  ⟨h.1, hW, va_S.put h.2.2.1 hsz hoq (Nat.le_add_right _ _), h.2.2.2⟩
theorem zrest_sF {o j k : Nat} {w : Value} (h : k ≠ o) : zce X (zsF H o j w) k = zce X H k := by
  simp [zce, zceK, zsF, h]
theorem zrest_sI {o j k : Nat} {w : Int32} (h : k ≠ o) : zce X (zsI H o j w) k = zce X H k := by
  simp [zce, zceK, zsI, h]
theorem zrest_sL {o j k : Nat} {w : Int64} (h : k ≠ o) : zce X (zsL H o j w) k = zce X H k := by
  simp [zce, zceK, zsL, h]
theorem zrest_rF {o k : Nat} {w : Nat → Value} (h : k ≠ o) : zce X (zrF H o w) k = zce X H k := by
  simp [zce, zceK, zrF, h]
theorem zrest_rI {o k : Nat} {w : Nat → Int32} (h : k ≠ o) : zce X (zrI H o w) k = zce X H k := by
  simp [zce, zceK, zrI, h]
theorem zrest_rL {o k : Nat} {w : Nat → Int64} (h : k ≠ o) : zce X (zrL H o w) k = zce X H k := by
  simp [zce, zceK, zrL, h]
theorem zs_getfield {k0 o : Nat} (ho : zokO n o x) (ih : zRun X y n0 n c ls (H.1 o a :: st) H P) : zRun X y n0 n ((.getfield k0, x, a, b, v) :: c) ls (.ref o :: st) H P :=
  zs_of (by nofun) rfl ih (fun p9 e s m args below meth c0 hA pc k hd hk lsA Hm locs hS kk => by
    have hk2 : ((x < 9 ∧ a < znF x) ∧ zwd b (.fieldLink (zyN y).cls k0 (zTT x a).1 (zTT x a).2.1 (zTT x a).2.2.1) = true) ∧ k = 3 := by simpa [zok] using hk
    obtain ⟨⟨⟨h1, h2⟩, h3⟩, rfl⟩ := hk2
    have hP := zWR_at (o := o) hS.2.1 ho.1
    rw [zce_obj ho.2] at hP
    have hsd : zmv X (.ref o) = .ref (zN X + o) := congrArg Value.ref (zad_lt ho.1 hS.2.1.2.1)
    show W _ _ _ _ _ _ _ _ _ _ _ _ _ _ _ (F0 m pc lsA (zmv X (.ref o) :: st.map (zmv X)))
    rw [hsd]
    refine va_get (D := zD X) (cl := zcl) (ci := x) (C := zcN x) (T := zTT x) (N := znF x) hA.1 hA.2.1 hA.2.2.2.2.1 (zin_ok x h1) hA.2.2.2.2.2.1 (va_K.moved (Vm.Alike.refl _) hA.2.2.2.2.2.2.2.2.1.1) hP 0 rfl (zcl_at h1) a h2 (hA.2.2.2.2.1 _ (zwd_mem h3)) (fun _ h9 => h9) (v := zmv X (H.1 o a)) ?_ hd (kk lsA Hm locs hS)
    simp [h2])
theorem znar_ok {w : Value} {t : FieldType} (h1 : zokV v w) (h2 : zty v t = true) : narrow t (zmv X w) = zmv X w ∧ fits t (zmv X w) = true := by
  cases w with
  | int q =>
    rcases h1 with rfl | ⟨rfl, h⟩
    · have : t = .int := by simpa [zty] using h2
      subst this
      exact ⟨rfl, rfl⟩
    · have : t = .boolean := by simpa [zty] using h2
      subst this
      rcases h with rfl | rfl
      · exact ⟨(by decide : narrow FieldType.boolean (Value.int (nI 0)) = Value.int (nI 0)), (by decide : fits FieldType.boolean (Value.int (nI 0)) = true)⟩
      · exact ⟨(by decide : narrow FieldType.boolean (Value.int (nI 1)) = Value.int (nI 1)), (by decide : fits FieldType.boolean (Value.int (nI 1)) = true)⟩
  | long q =>
    have h1 : v = 1 := h1
    subst h1
    have : t = .long := by simpa [zty] using h2
    subst this
    exact ⟨rfl, rfl⟩
  | ref q =>
    have h1 : v = 3 := h1
    subst h1
    cases t <;> first | (simp [zty] at h2; done) | exact ⟨rfl, rfl⟩
  | _ => exact h1.elim
theorem zset_fld {o : Nat} {w : Value} {N : Nat} (h : a < N) : ((List.range N).map fun j => zmv X (H.1 o j)).set a (zmv X w) = (List.range N).map fun j => zmv X ((zsF H o a w).1 o j) := by
  apply List.ext_getElem?
  intro j
  by_cases hj : j = a
  · subst hj
    simp [zsF, h]
  · rw [List.getElem?_set_ne (Ne.symm hj)]
    by_cases h2 : j < N
    · simp [zsF, hj, h2]
    · simp [h2]
theorem zs_putfield {k0 o : Nat} {w : Value} (ho : zokO n o x) (hw : zokV v w) (ih : zRun X y n0 n c ls st (zsF H o a w) P) : zRun X y n0 n ((.putfield k0, x, a, b, v) :: c) ls (w :: .ref o :: st) H P :=
  zs_of (by nofun) rfl ih (fun p9 e s m args below meth c0 hA pc k hd hk lsA Hm locs hS kk => by
    have hk2 : ((((x < 9 ∧ a < znF x) ∧ zwd b (.fieldLink (zyN y).cls k0 (zTT x a).1 (zTT x a).2.1 (zTT x a).2.2.1) = true) ∧ zty v (ztY x a) = true) ∧ ((zTT x a).2.2.2 = false ∨ (zyN y).name = "<init>" ∧ (zTT x a).1 = (zyN y).cls)) ∧ k = 3 := by simpa [zok] using hk
    obtain ⟨⟨⟨⟨⟨h1, h2⟩, h3⟩, h4⟩, h5⟩, rfl⟩ := hk2
    obtain ⟨hn, hfit⟩ := znar_ok (X := X) hw h4
    have hsd : zmv X (.ref o) = .ref (zN X + o) := congrArg Value.ref (zad_lt ho.1 hS.2.1.2.1)
    show W _ _ _ _ _ _ _ _ _ _ _ _ _ _ _ (F0 m pc lsA (zmv X w :: zmv X (.ref o) :: st.map (zmv X)))
    rw [hsd]
    have hx := hA.1
    have hb := hA.2.1
    have hts := hA.2.2.2.2.1
    have hin := zin_ok x h1
    have hown := hA.2.2.2.2.2.1
    have hK := hA.2.2.2.2.2.2.2.2.1.1
    have hc := zcl_at h1
    have hlink := hts _ (zwd_mem h3)
    have hap := va_apart (own := (zyN y).cls) hts hin (ztY x) (zty_ok x h1) (znm_ok x h1) hK hc
    have hat := hS.2.1.2.2 o ho.1
    rw [zce_obj ho.2] at hat
    obtain ⟨r, g1, cell, q1, q2, q3, q4⟩ := hat
    have hr : r = (zcN x, zTT x, znF x) := Option.some.inj (g1.symm.trans hc)
    subst hr
    obtain ⟨hSl, hfc, kC, hkC, hkind⟩ := hK.1 x _ hc
    obtain ⟨cf, kf, fi, f, hi, hsl⟩ := hSl a h2
    have hst := (u_facts hfc hkC (u_lays hts hin h2) hi).1
    have hend : ∀ H1 : Heap, H1[zN X + o]? = some (cell.setSlot f.slot (zmv X w)) → H1.size = Hm.size → (∀ q, q ≠ zN X + o → H1[q]? = Hm[q]?) → zSt X y n0 n s lsA ls (zsF H o a w) H1 (locs ++ [⟨zN X + o, f.slot⟩]) := by
      intro H1 e1 e2 e3
      refine zSt_put hS e2 e3 (zWR_put hS.2.1 ho.1 e2 e3 ?_ (fun k hk => zrest_sF hk))
      rw [zce_obj ho.2, ← zset_fld h2]
      rw [hsl] at e1
      exact ⟨_, hc, t_OB.to (V := updV (vp_V ((List.range (znF x)).map fun j => zmv X (H.1 o j))) a (zmv X w)) ⟨_, e1, q2, q3, t_set q4 hap h2 (zmv X w)⟩ (fun j _ => vp_updV_set (by simpa using h2) (zmv X w) j)⟩
    have hlt : f.slot < cell.slots.size := by rw [hsl]; exact k2_hasslot (q4 a h2)
    have hlay := hts _ (hin _ (u_in_lay h2))
    unfold u_lay at hlay
    by_cases hfin : (zTT x a).2.2.2 = true
    · rw [if_pos hfin] at hlay
      obtain ⟨h6, h7⟩ : (zyN y).name = "<init>" ∧ (zTT x a).1 = (zyN y).cls := by
        rcases h5 with h5 | h5
        · rw [hfin] at h5; cases h5
        · exact h5
      have hcf : m.cls = cf := by
        obtain ⟨_, _, c', _, _, _, -, -, hf', -, -, -, hown2, -⟩ := Cond.laysFinal_spec hlay
        have e1 : c' = cf := by have := hi.symm.trans hf'; simp at this; exact this.1.symm
        rw [h7] at hown2
        rw [← e1]; exact Option.some.inj (hown.symm.trans hown2)
      have h8 := u_fits hfc hkC hkind (Or.inr hlay) hi (zty_ok x h1 a h2) hn hfit
      exact W.putFinK hx hb hown hlink hi hst hcf (hA.2.2.2.2.2.2.2.1.trans h6) (by rw [q2]; exact h8) q1 q3 hlt rfl rfl hd fun H' e1 e2 e3 => kk _ _ _ (hend H' e1 e2 e3)
    · rw [if_neg hfin] at hlay
      have h8 := u_store hfc hkC hkind hlay hi (zty_ok x h1 a h2) hn hfit
      exact W.putK hx hb (f := f) ⟨hown, hlink, ⟨_, _, _, hi⟩, hst⟩ (by rw [q2]; exact h8) q1 q3 hlt rfl rfl hd fun H' e1 e2 e3 => kk _ _ _ (hend H' e1 e2 e3))
theorem zBase {s : State} {m : MethodId} {args : Array Value} {meth : Method} {c0 : Code} {p9 : Program} (hA : zAct X y n0 p9 s m args meth c0) : zB X s s.heap := hA.2.2.2.2.2.2.2.2.1
theorem zs_getstatic {k0 : Nat} (ih : zRun X y n0 n c ls (.ref 9002 :: st) H P) : zRun X y n0 n ((.getstatic k0, x, a, b, v) :: c) ls st H P :=
  zs_of (by nofun) rfl ih (fun p9 e s m args below meth c0 hA pc k hd hk lsA Hm locs hS kk => by
    have hk2 : zwd b (.fieldLink (zyN y).cls k0 "CubeSnakes$CornerSet" "WITHOUT" "[J") = true ∧ k = 3 := by simpa [zok] using hk
    obtain ⟨h1, rfl⟩ := hk2
    exact va_gets hA.1 hA.2.1 (zBase hA).2.2.1 hS.2.2.1 hA.2.2.2.2.2.1 (hA.2.2.2.2.1 _ (zwd_mem h1)) (fun _ h9 => h9) hd (kk lsA Hm locs hS))
theorem zs_sload {o : Nat} {i : Int32} (ho : o = 9001) (hi : zinR i (zXL X)) (ih : zRun X y n0 n c ls (.int (zXs X (zix i)) :: st) H P) : zRun X y n0 n ((.iaload, x, a, b, v) :: c) ls (.int i :: .ref o :: st) H P :=
  zs_of (by nofun) rfl ih (fun p9 e s m args below meth c0 hA pc k hd hk lsA Hm locs hS kk => by
    obtain rfl := zk1 rfl hk
    subst ho
    exact va_sld hA.1 hA.2.1 (zBase hA).2.2.2.2.1 (Nat.lt_of_lt_of_le (zBase hA).2.2.2.2.2.1 (zBase hA).2.2.2.2.2.2.1) (Nat.not_le.mpr (zBase hA).2.2.2.2.2.1) hS.2.2.1 hi hd (kk lsA Hm locs hS))
theorem zs_slen {o : Nat} (ho : o = 9001) (ih : zRun X y n0 n c ls (.int (nI (zXL X)) :: st) H P) : zRun X y n0 n ((.arraylength, x, a, b, v) :: c) ls (.ref o :: st) H P :=
  zs_of (by nofun) rfl ih (fun p9 e s m args below meth c0 hA pc k hd hk lsA Hm locs hS kk => by
    obtain rfl := zk1 rfl hk
    subst ho
    exact va_slen hA.1 hA.2.1 (zBase hA).2.2.2.2.1 (Nat.lt_of_lt_of_le (zBase hA).2.2.2.2.2.1 (zBase hA).2.2.2.2.2.2.1) (Nat.not_le.mpr (zBase hA).2.2.2.2.2.1) hS.2.2.1 hd (kk lsA Hm locs hS))
theorem zs_tload {o : Nat} {i : Int32} (ho : o = 9002) (hi : zinR i 6) (ih : zRun X y n0 n c ls (.long (zwof (zix i)) :: st) H P) : zRun X y n0 n ((.laload, x, a, b, v) :: c) ls (.int i :: .ref o :: st) H P :=
  zs_of (by nofun) rfl ih (fun p9 e s m args below meth c0 hA pc k hd hk lsA Hm locs hS kk => by
    obtain rfl := zk1 rfl hk
    subst ho
    exact va_tl hA.1 hA.2.1 (zBase hA).2.2.2.1 hS.2.2.1 hi rfl hd (kk lsA Hm locs hS))
theorem zs_tlen {o : Nat} (ho : o = 9002) (ih : zRun X y n0 n c ls (.int (nI 6) :: st) H P) : zRun X y n0 n ((.arraylength, x, a, b, v) :: c) ls (.ref o :: st) H P :=
  zs_of (by nofun) rfl ih (fun p9 e s m args below meth c0 hA pc k hd hk lsA Hm locs hS kk => by
    obtain rfl := zk1 rfl hk
    subst ho
    exact va_tlen hA.1 hA.2.1 (zBase hA).2.2.2.1 hS.2.2.1 rfl hd (kk lsA Hm locs hS))
theorem zs_iaload {o : Nat} {i : Int32} (ho : zokA n o 1) (hi : zinR i (zal o)) (ih : zRun X y n0 n c ls (.int (H.2.1 o (zix i)) :: st) H P) : zRun X y n0 n ((.iaload, x, a, b, v) :: c) ls (.int i :: .ref o :: st) H P :=
  zs_of (by nofun) rfl ih (fun p9 e s m args below meth c0 hA pc k hd hk lsA Hm locs hS kk => by
    obtain rfl := zk1 rfl hk
    have hP := zWR_at (o := o) hS.2.1 ho.1
    rw [zce_1 ho.2] at hP
    have hsd : zmv X (.ref o) = .ref (zN X + o) := congrArg Value.ref (zad_lt ho.1 hS.2.1.2.1)
    show W _ _ _ _ _ _ _ _ _ _ _ _ _ _ _ (F0 m pc lsA (.int i :: zmv X (.ref o) :: st.map (zmv X)))
    rw [hsd]
    exact va_iald hA.1 hA.2.1 (zBase hA).1 hP 0 0 rfl rfl hi hd (kk lsA Hm locs hS))
theorem zs_baload {o : Nat} {i : Int32} (ho : zokA n o 3) (hi : zinR i (zal o)) (ih : zRun X y n0 n c ls (.int (H.2.1 o (zix i)) :: st) H P) : zRun X y n0 n ((.baload, x, a, b, v) :: c) ls (.int i :: .ref o :: st) H P :=
  zs_of (by nofun) rfl ih (fun p9 e s m args below meth c0 hA pc k hd hk lsA Hm locs hS kk => by
    obtain rfl := zk1 rfl hk
    have hP := zWR_at (o := o) hS.2.1 ho.1
    rw [zce_3 ho.2] at hP
    have hsd : zmv X (.ref o) = .ref (zN X + o) := congrArg Value.ref (zad_lt ho.1 hS.2.1.2.1)
    show W _ _ _ _ _ _ _ _ _ _ _ _ _ _ _ (F0 m pc lsA (.int i :: zmv X (.ref o) :: st.map (zmv X)))
    rw [hsd]
    exact va_bald hA.1 hA.2.1 (zBase hA).1 hP 0 2 rfl rfl hi hd (kk lsA Hm locs hS))
theorem zs_laload {o : Nat} {i : Int32} (ho : zokA n o 2) (hi : zinR i (zal o)) (ih : zRun X y n0 n c ls (.long (H.2.2 o (zix i)) :: st) H P) : zRun X y n0 n ((.laload, x, a, b, v) :: c) ls (.int i :: .ref o :: st) H P :=
  zs_of (by nofun) rfl ih (fun p9 e s m args below meth c0 hA pc k hd hk lsA Hm locs hS kk => by
    obtain rfl := zk1 rfl hk
    have hP := zWR_at (o := o) hS.2.1 ho.1
    rw [zce_2 ho.2] at hP
    have hsd : zmv X (.ref o) = .ref (zN X + o) := congrArg Value.ref (zad_lt ho.1 hS.2.1.2.1)
    show W _ _ _ _ _ _ _ _ _ _ _ _ _ _ _ (F0 m pc lsA (.int i :: zmv X (.ref o) :: st.map (zmv X)))
    rw [hsd]
    exact va_lald hA.1 hA.2.1 (zBase hA).1 hP 0 1 rfl rfl hi hd (kk lsA Hm locs hS))
theorem zs_aaload {o : Nat} {i : Int32} (ho : zokA n o 4) (hi : zinR i (zal o)) (hr : zisR (H.1 o (zix i))) (ih : zRun X y n0 n c ls (H.1 o (zix i) :: st) H P) : zRun X y n0 n ((.aaload, x, a, b, v) :: c) ls (.int i :: .ref o :: st) H P :=
  zs_of (by nofun) rfl ih (fun p9 e s m args below meth c0 hA pc k hd hk lsA Hm locs hS kk => by
    obtain rfl := zk1 rfl hk
    have hP := zWR_at (o := o) hS.2.1 ho.1
    rw [zce_4 ho.2] at hP
    have hsd : zmv X (.ref o) = .ref (zN X + o) := congrArg Value.ref (zad_lt ho.1 hS.2.1.2.1)
    show W _ _ _ _ _ _ _ _ _ _ _ _ _ _ _ (F0 m pc lsA (.int i :: zmv X (.ref o) :: st.map (zmv X)))
    rw [hsd]
    refine va_aldq hA.1 hA.2.1 (zBase hA).1 hP 0 3 rfl rfl hi hd ?_
    have e : va_rf (zrO (zmv X (H.1 o i.toNatClampNeg))) = zmv X (H.1 o (zix i)) := by
      change zisR (H.1 o i.toNatClampNeg) at hr
      show va_rf (zrO (zmv X (H.1 o i.toNatClampNeg))) = zmv X (H.1 o i.toNatClampNeg)
      cases hz : H.1 o i.toNatClampNeg <;> rw [hz] at hr <;> first | rfl | exact hr.elim
    rw [e]
    exact kk lsA Hm locs hS)
theorem zs_arraylength {o : Nat} (ho : o < n ∧ 1 ≤ (zsh o).1 ∧ (zsh o).1 ≤ 4) (ih : zRun X y n0 n c ls (.int (nI (zal o)) :: st) H P) : zRun X y n0 n ((.arraylength, x, a, b, v) :: c) ls (.ref o :: st) H P :=
  zs_of (by nofun) rfl ih (fun p9 e s m args below meth c0 hA pc k hd hk lsA Hm locs hS kk => by
    obtain rfl := zk1 rfl hk
    have hP := zWR_at (o := o) hS.2.1 ho.1
    have hsd : zmv X (.ref o) = .ref (zN X + o) := congrArg Value.ref (zad_lt ho.1 hS.2.1.2.1)
    show W _ _ _ _ _ _ _ _ _ _ _ _ _ _ _ (F0 m pc lsA (zmv X (.ref o) :: st.map (zmv X)))
    rw [hsd]
    have h4 : (zsh o).1 = 1 ∨ (zsh o).1 = 2 ∨ (zsh o).1 = 3 ∨ (zsh o).1 = 4 := by omega
    rcases h4 with h | h | h | h
    · rw [zce_1 h] at hP
      exact va_alen hA.1 hA.2.1 (zBase hA).1 hP 0 0 rfl rfl rfl hd (kk lsA Hm locs hS)
    · rw [zce_2 h] at hP
      exact va_alen hA.1 hA.2.1 (zBase hA).1 hP 0 1 rfl rfl rfl hd (kk lsA Hm locs hS)
    · rw [zce_3 h] at hP
      exact va_alen hA.1 hA.2.1 (zBase hA).1 hP 0 2 rfl rfl rfl hd (kk lsA Hm locs hS)
    · rw [zce_4 h] at hP
      exact va_alen hA.1 hA.2.1 (zBase hA).1 hP 0 3 rfl rfl rfl hd (kk lsA Hm locs hS))
theorem zs_iastore {o : Nat} {i q : Int32} (ho : zokA n o 1) (hi : zinR i (zal o)) (ih : zRun X y n0 n c ls st (zsI H o (zix i) q) P) : zRun X y n0 n ((.iastore, x, a, b, v) :: c) ls (.int q :: .int i :: .ref o :: st) H P :=
  zs_of (by nofun) rfl ih (fun p9 e s m args below meth c0 hA pc k hd hk lsA Hm locs hS kk => by
    obtain rfl := zk1 rfl hk
    have hP := zWR_at (o := o) hS.2.1 ho.1
    rw [zce_1 ho.2] at hP
    have hsd : zmv X (.ref o) = .ref (zN X + o) := congrArg Value.ref (zad_lt ho.1 hS.2.1.2.1)
    show W _ _ _ _ _ _ _ _ _ _ _ _ _ _ _ (F0 m pc lsA (.int q :: .int i :: zmv X (.ref o) :: st.map (zmv X)))
    rw [hsd]
    refine W.iast hA.1 hA.2.1 (hP 0 _ rfl) (((zBase hA).1.2 0 _ rfl).1 _ (fun j => .int (H.2.1 o j))) (fun q => by cases q) (by show ¬ (i < 0 ∨ (arrV _ _ _).slots.size ≤ _); rw [arrV_size]; exact hi) rfl rfl hd fun H1 e1 e2 e3 => ?_
    refine kk lsA H1 _ (zSt_put hS e2 e3 (zWR_put hS.2.1 ho.1 e2 e3 ?_ (fun k hk => zrest_sI hk)))
    rw [zce_1 ho.2]
    show H1[_]? = some (vp_cell _ _)
    rw [e1, vp_cell_i, vp_cell_i, arrV_store]
    congr 2
    funext j
    by_cases hj : j = i.toNatClampNeg
    · subst hj; simp [updV, zsI, zix]
    · simp [updV, zsI, zix, hj])
theorem zs_bastore {o : Nat} {i q : Int32} (ho : zokA n o 3) (hi : zinR i (zal o)) (ih : zRun X y n0 n c ls st (zsI H o (zix i) q.toInt8.toInt32) P) : zRun X y n0 n ((.bastore, x, a, b, v) :: c) ls (.int q :: .int i :: .ref o :: st) H P :=
  zs_of (by nofun) rfl ih (fun p9 e s m args below meth c0 hA pc k hd hk lsA Hm locs hS kk => by
    obtain rfl := zk1 rfl hk
    have hP := zWR_at (o := o) hS.2.1 ho.1
    rw [zce_3 ho.2] at hP
    have hsd : zmv X (.ref o) = .ref (zN X + o) := congrArg Value.ref (zad_lt ho.1 hS.2.1.2.1)
    show W _ _ _ _ _ _ _ _ _ _ _ _ _ _ _ (F0 m pc lsA (.int q :: .int i :: zmv X (.ref o) :: st.map (zmv X)))
    rw [hsd]
    refine W.bast hA.1 hA.2.1 (hP 0 _ rfl) (((zBase hA).1.2 2 _ rfl).1 _ (fun j => .int (H.2.1 o j))) (fun q => by cases q) (by show ¬ (i < 0 ∨ (arrV _ _ _).slots.size ≤ _); rw [arrV_size]; exact hi) rfl rfl hd fun H1 e1 e2 e3 => ?_
    refine kk lsA H1 _ (zSt_put hS e2 e3 (zWR_put hS.2.1 ho.1 e2 e3 ?_ (fun k hk => zrest_sI hk)))
    rw [zce_3 ho.2]
    show H1[_]? = some (vp_cell _ _)
    rw [e1, vp_cell_i, vp_cell_i, arrV_store]
    congr 2
    funext j
    by_cases hj : j = i.toNatClampNeg
    · subst hj; simp [updV, zsI, zix, narrow]
    · simp [updV, zsI, zix, hj])
theorem zs_lastore {o : Nat} {i : Int32} {q : Int64} (ho : zokA n o 2) (hi : zinR i (zal o)) (ih : zRun X y n0 n c ls st (zsL H o (zix i) q) P) : zRun X y n0 n ((.lastore, x, a, b, v) :: c) ls (.long q :: .int i :: .ref o :: st) H P :=
  zs_of (by nofun) rfl ih (fun p9 e s m args below meth c0 hA pc k hd hk lsA Hm locs hS kk => by
    obtain rfl := zk1 rfl hk
    have hP := zWR_at (o := o) hS.2.1 ho.1
    rw [zce_2 ho.2] at hP
    have hsd : zmv X (.ref o) = .ref (zN X + o) := congrArg Value.ref (zad_lt ho.1 hS.2.1.2.1)
    show W _ _ _ _ _ _ _ _ _ _ _ _ _ _ _ (F0 m pc lsA (.long q :: .int i :: zmv X (.ref o) :: st.map (zmv X)))
    rw [hsd]
    refine W.last hA.1 hA.2.1 (hP 0 _ rfl) (((zBase hA).1.2 1 _ rfl).1 _ (fun j => .long (H.2.2 o j))) (fun q => by cases q) (by show ¬ (i < 0 ∨ (arrV _ _ _).slots.size ≤ _); rw [arrV_size]; exact hi) rfl rfl hd fun H1 e1 e2 e3 => ?_
    refine kk lsA H1 _ (zSt_put hS e2 e3 (zWR_put hS.2.1 ho.1 e2 e3 ?_ (fun k hk => zrest_sL hk)))
    rw [zce_2 ho.2]
    show H1[_]? = some (vp_cell _ _)
    rw [e1, vp_cell_l, vp_cell_l, arrV_store]
    congr 2
    funext j
    by_cases hj : j = i.toNatClampNeg
    · subst hj; simp [updV, zsL, zix]
    · simp [updV, zsL, zix, hj])
theorem zs_aastore {o r : Nat} {i : Int32} (ho : zokA n o 4) (hi : zinR i (zal o)) (hr : zokO n r 3) (ih : zRun X y n0 n c ls st (zsF H o (zix i) (.ref r)) P) : zRun X y n0 n ((.aastore, x, a, b, v) :: c) ls (.ref r :: .int i :: .ref o :: st) H P :=
  zs_of (by nofun) rfl ih (fun p9 e s m args below meth c0 hA pc k hd hk lsA Hm locs hS kk => by
    obtain rfl := zk1 rfl hk
    have hP := zWR_at (o := o) hS.2.1 ho.1
    rw [zce_4 ho.2] at hP
    have hv := hS.2.1.2.2 r hr.1
    rw [zce_obj hr.2] at hv
    have hsd : zmv X (.ref o) = .ref (zN X + o) := congrArg Value.ref (zad_lt ho.1 hS.2.1.2.1)
    have hsr : zmv X (.ref r) = .ref (zN X + r) := congrArg Value.ref (zad_lt hr.1 hS.2.1.2.1)
    show W _ _ _ _ _ _ _ _ _ _ _ _ _ _ _ (F0 m pc lsA (zmv X (.ref r) :: .int i :: zmv X (.ref o) :: st.map (zmv X)))
    rw [hsd, hsr]
    have hK := (zBase hA).1
    have hi' : vp_in i (zal o) := hi
    have hlt : i.toNatClampNeg < zal o := Nat.not_le.mp fun q => hi' (Or.inr q)
    have h0 : ¬ i < 0 := fun q => hi' (Or.inl q)
    obtain ⟨r', hr', cellV, g1, g2, g3, -⟩ := hv
    have hcls := (hK.1 3 _ (zcl_at (by decide))).2
    obtain ⟨kA, comp, k1, k2, k3, -⟩ := (hK.2 3 _ rfl).2
    have hcomp : comp = (zD X).1 3 := Option.some.inj (k3.symm.trans hcls.1)
    subst hcomp
    obtain ⟨kC, hkC, -⟩ := hcls.2
    refine W.aast hA.1 hA.2.1 (hP 0 _ rfl) (fun q h => by cases h) (fun h => by cases h) k1 k2 rfl hkC ⟨h0, by show _ < (arrV _ _ _).slots.size; rw [arrV_size]; exact hlt⟩ g1 (fun q h => by rw [g3] at h; cases h) (by rw [g2]; exact hkC) (by rw [g2]; exact va_assign hcls) rfl rfl hd fun H1 e1 e2 e3 => ?_
    refine kk lsA H1 _ (zSt_put hS e2 e3 (zWR_put hS.2.1 ho.1 e2 e3 ?_ (fun k hk => zrest_sF hk)))
    rw [zce_4 ho.2]
    show H1[_]? = some (vp_cell _ _)
    rw [e1, vp_cell_q, vp_cell_q, arrV_store]
    congr 2
    funext j
    by_cases hj : j = i.toNatClampNeg
    · subst hj
      simp only [updV, zsF, zix, if_true, and_self]
      rw [hsr]
      rfl
    · simp [updV, zsF, zix, hj])
end ZH
