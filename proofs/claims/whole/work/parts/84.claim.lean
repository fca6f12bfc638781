/-! the claim out of the law (the heads lw_.. are the skeleton's) -/
def R_law : String := "CubeSnakesLaw"
def lw_P (b : Addr) (xs : List Int32) (args : Array Value) (s : State) : Prop := args = #[.ref b] ∧ s.IntsAt b xs ∧ xs.length ≤ 2560 ∧ (Jvm.Cond.and given_1 narrow_1).before args s = true
def lw_Q (_ : Array Value) (s : State) (o : Outcome) (t : State) : Prop := o = .returned (some (.int 1)) ∧ Framed s o t [] 600000 7302250
theorem lw_pre_spec {args : Array Value} {s : State} (h : (Jvm.Cond.and given_1 narrow_1).before args s = true) (hr : rest_1_c.before args s = true) : ∃ (b : Addr) (xs : List Int32), lw_P b xs args s := by
  have hs := flat_of_before _ h
  have hq := flat_of_before _ hr
  have hc : (Cond.count 1).before args s = true := hs _ (by decide +kernel)
  have harr : (Cond.arrayOf (.arg 0) .int).before args s = true := hs _ (by decide +kernel)
  have hle : (Cond.le (.length (.arg 0)) (.int 2560)).before args s = true := hs _ (by decide +kernel)
  have hlen : (Cond.isInt (.length (.arg 0))).before args s = true := hq _ (by decide +kernel)
  have hall : (Cond.all (.arg 0) (.isInt (.elem (.arg 0) (.index 0)))).before args s = true := hq _ (by decide +kernel)
  obtain ⟨b, xs, hb, hx⟩ := State.ints_of_pre rfl harr hlen hall
  have hsm : xs.length < 2 ^ 31 := hx.choose_spec.2.2.2
  have hev : (Term.length (.arg 0)).eval args s none [] s = some (.int xs.length.toInt32) := hx.length_eval hb
  have hv := Cond.le_ints hev (show (Term.int 2560).eval args s none [] s = some (.int 2560) from rfl)
  have hd : xs.length.toInt32 ≤ 2560 := by
    simpa [Cond.before, Cond.holds, hv] using hle
  have hN : xs.length ≤ 2560 := (Int32.ofNat_le_ofNat hsm (by decide)).mp (show Int32.ofNat xs.length ≤ Int32.ofNat 2560 from hd)
  exact ⟨b, xs, Cond.one_arg hc (show args[0]? = some (.ref b) from hb), hx, hN, h⟩
theorem law_met {X : zX} (hL : zXL X ≤ 2560) (H : zHp) : zCall X 176 0 [.ref 9001] H (fun w _ => w = some (.int (nI 1))) := by
  have hm : zmt 176 = true := zmt_all 176 (by decide)
  have h0 : zst 176 0 = 0 := zst0 176 (by decide)
  have h : zRun X 176 0 0 (blk 176 0) (zen [.ref 9001]) [] H (fun w _ => w = some (.int (nI 1))) := law_all (P := fun w _ => w = some (.int (nI 1))) hL (fun _ => rfl)
  refine Met.ofW (cc := zcB 176) (maxL := zmL 176) (ret := zrT 176) (by decide +kernel) rfl ?_
  intro p e s m args below meth c s₁ B hml hv
  obtain ⟨rfl, hW, hB⟩ := hv
  have hts := atoms_spec (ws := zws 176) B.pre
  have hl : zsw [.ref 9001] (zmL 176) := True.intro
  have hl2 := zsw_len (X := X) [.ref 9001] _ hl
  have hle := lv_entry (([.ref 9001] : List Value).map (zmv X)) hl2
  rw [lg_entry_eq]
  have hgo := h hm p e s m _ below meth c ⟨B.exec, B.bytes, B.returns, hml, fun w hw => hts w (List.mem_cons_of_mem _ hw), findClass_of_methodNamed B.named, B.notSynchronized, (name_of_methodNamed B.named B.method).1, hB, hW.1⟩ 0
    (by have := zat_blk hm (t := 0) (by rw [h0]; decide); rwa [h0] at this) _ s.heap [] ⟨⟨_, hle, fun i hi => by simpa using zen_args X [.ref 9001] 0 i hi⟩, hW, va_S.rf, Nat.le_refl _, Nat.le_refl _, Nat.le_add_right _ _, Nat.le_add_right _ _⟩
  unfold zGo at hgo
  rw [Nat.sub_self, Nat.sub_self] at hgo
  exact hgo
theorem room_le {s : State} {pl : Platform} (h : s.hasRoom pl room_1 = true) : s.hasRoom pl (zrm 176) = true := by
  have e1 : (zrm 176).frames ≤ room_1.frames := by decide +kernel
  have e2 : (zrm 176).cells ≤ room_1.cells := by decide +kernel
  have e3 : (zrm 176).slots ≤ room_1.slots := by decide +kernel
  have e4 : (zrm 176).locals ≤ room_1.locals := by decide +kernel
  simp only [State.hasRoom, Bool.and_eq_true, decide_eq_true_eq] at h ⊢
  obtain ⟨⟨⟨⟨a1, a2, a3, a4, a5, a6⟩, a7⟩, a8⟩, a9⟩ := h
  refine ⟨⟨⟨⟨?_, ?_, ?_, ?_, ?_, a6⟩, ?_⟩, ?_⟩, a9⟩ <;> omega
/-- what the tables say of the classes -/
theorem known_all {s : State} {args : Array Value} (hts : ∀ w ∈ lw_tbl, w.before args s = true) : ∃ D : va_G, ∀ c, c < 9 → u_Kn s (zcN c) (zTT c) (znF c) (D.1 c) (D.2 c) := by
  have h : ∀ c, ∃ q : ClassId × (Nat → Nat), c < 9 → u_Kn s (zcN c) (zTT c) (znF c) q.1 q.2 := by
    intro c
    by_cases hc : c < 9
    · obtain ⟨cC, iS, hk⟩ := u_known (ws := lw_tbl) (n := znF c) hts (fun w hw => (zin_ok0 c hc w hw).1) (hts _ (zinst_ok0 c hc).1.1)
      exact ⟨(cC, iS), fun _ => hk⟩
    · exact ⟨(0, fun _ => 0), fun q => absurd q hc⟩
  exact ⟨(fun c => (Classical.choose (h c)).1, fun c => (Classical.choose (h c)).2), fun c hc => Classical.choose_spec (h c) hc⟩
theorem arr_of {s : State} {args : Array Value} {ty : FieldType} (h : (Cond.arrayClass ty).before args s = true) : ∃ c : ClassId, ArrOfT s c ty ∧ s.vm.findClass ("[" ++ ty.toString) = some c := by
  obtain ⟨c, k, comp, h1, h2, h3⟩ := Cond.arrayClass_spec h
  exact ⟨c, fun n z => ⟨(fun k h => by cases h), k, h2, comp, h3⟩, h1⟩
theorem arr_ofq {s : State} {args : Array Value} {C : String} (h : (Cond.arrayOver (.object C)).before args s = true) : ∃ c : ClassId, ArrOfT s c (.object C) ∧ va_RA s c (.object C) := by
  obtain ⟨comp, c, k, h1, h2, h3, h4, h5⟩ := Cond.arrayOver_spec h
  exact ⟨c, fun n z => ⟨(fun k h => by cases h), k, h3, comp, h4⟩, k, comp, h3, h4, h1, h5⟩
theorem eq_val {args : Array Value} {s : State} {a b : Term} {y : Value} (h : (Cond.eq a b).before args s = true) (hb : b.eval args s none [] s = some y) : a.eval args s none [] s = some y := by
  obtain ⟨z, h1, h2⟩ := Cond.eq_one h
  rw [hb] at h2
  cases h2
  exact h1
theorem lw_comes (l : Launch) (hflags : l.flags = flags0) : Comes l x (Jvm.Cond.code x code maxLocals ret :: tables_1) room_1 (fun tb e args s => Calls_1 tb e args s ∧ rest_1 tb e args s ∧ Pre_1 tb e args s)
    (fun _ _ args s o t => lw_Q args s o t) := by
  intro p e ha hc hk s m args below hf hfit hheap happ hpre
  obtain ⟨b, xs, hP⟩ := lw_pre_spec hpre.2.2 hpre.2.1
  obtain ⟨hargs, hx, hbd, hgv⟩ := hP
  obtain ⟨q1, q2, q3, q4, q5, q6, q7, q8⟩ := (Spec.appliesLoose_iff hf).mp ((Spec.applies_iff_loose hf).mp happ).1
  have hts0 : ∀ c ∈ (Jvm.Cond.code x code maxLocals ret :: tables_1), c.before args s = true := atoms_spec (ws := Jvm.Cond.code x code maxLocals ret :: tables_1) q8
  have hts : ∀ w ∈ lw_tbl, w.before args s = true := k2_hts_sels lw_privs (fun w hw => hts0 w (List.mem_cons_of_mem _ hw)) lw_privs_ok
  obtain ⟨scr, harrAt, hlist, hof, hsmall⟩ := hx
  obtain ⟨hcb, hkn, -, -⟩ := State.arrayAt?_spec harrAt
  have hsz : scr.slots.size = xs.length := by rw [← Array.length_toList, hlist, List.length_map]
  have hval : ∀ j : Nat, j < xs.length → scr.slots[j]? = some (.int (xs.getD j 0)) := fun j hj => by
    rw [← Array.getElem?_toList, hlist]
    simp [hj]
  have hbl : b < s.heap.size := (Array.getElem?_eq_some_iff.mp hcb).1
  have hX : va_X b xs.length (fun j => xs.getD j 0) s s.heap := ⟨scr, hcb, hof, hkn, hsz, hval⟩
  obtain ⟨D, hD⟩ := known_all hts
  obtain ⟨c1, a1, r1⟩ := arr_of (hts _ zarr_ok0.1.1)
  obtain ⟨c2, a2, r2⟩ := arr_of (hts _ zarr_ok0.1.2.1)
  obtain ⟨c3, a3, r3⟩ := arr_of (hts _ zarr_ok0.1.2.2)
  obtain ⟨c4, a4, r4⟩ := arr_ofq (hts _ zarr_ok0.2)
  -- the static array
  have hs := flat_of_before _ hgv
  have hA : ∀ a : Nat, a < s.heap.size → ¬ (fun q => s.heap.size ≤ q) a := fun a h q => absurd h (Nat.not_lt.mpr q)
  have harr : (Cond.arrayOf (Term.static "CubeSnakes$CornerSet" "WITHOUT" "[J") .long).before args s = true := hs _ (by decide +kernel)
  have hlen : (Term.length (Term.static "CubeSnakes$CornerSet" "WITHOUT" "[J")).eval args s none [] s = some (.int (Int32.ofNat 6)) := eq_val (hs (.eq (.length (.static "CubeSnakes$CornerSet" "WITHOUT" "[J")) (.int 6)) (by decide +kernel)) rfl
  have hel : ∀ j : Nat, j < 6 → (Term.elem (Term.static "CubeSnakes$CornerSet" "WITHOUT" "[J") (.int (Int32.ofNat j))).eval args s none [] s = some (.long (zwof j)) := by
    intro j hj
    have hc : j = 0 ∨ j = 1 ∨ j = 2 ∨ j = 3 ∨ j = 4 ∨ j = 5 := by omega
    rcases hc with rfl | rfl | rfl | rfl | rfl | rfl
    · exact eq_val (hs (.eq (.elem (.static "CubeSnakes$CornerSet" "WITHOUT" "[J") (.int 0)) (.long 6148914691236517205)) (by decide +kernel)) rfl
    · exact eq_val (hs (.eq (.elem (.static "CubeSnakes$CornerSet" "WITHOUT" "[J") (.int 1)) (.long 3689348814741910323)) (by decide +kernel)) rfl
    · exact eq_val (hs (.eq (.elem (.static "CubeSnakes$CornerSet" "WITHOUT" "[J") (.int 2)) (.long 1085102592571150095)) (by decide +kernel)) rfl
    · exact eq_val (hs (.eq (.elem (.static "CubeSnakes$CornerSet" "WITHOUT" "[J") (.int 3)) (.long 71777214294589695)) (by decide +kernel)) rfl
    · exact eq_val (hs (.eq (.elem (.static "CubeSnakes$CornerSet" "WITHOUT" "[J") (.int 4)) (.long 281470681808895)) (by decide +kernel)) rfl
    · exact eq_val (hs (.eq (.elem (.static "CubeSnakes$CornerSet" "WITHOUT" "[J") (.int 5)) (.long 4294967295)) (by decide +kernel)) rfl
  obtain ⟨t, ht, hT⟩ := va_Tof (N := 6) (f := fun j => .long (zwof j)) (A := fun q => s.heap.size ≤ q) (by decide) harr hlen hel hA
  have hZ := va_Zref (hts _ zstat_ok.1) (hts _ zstat_ok.2) ht hA
  have hB : zB (l, s.heap.size, D, (c1, c2, c3, c4), (b, xs.length, fun j => xs.getD j 0), t) s s.heap := by
    refine ⟨⟨fun c q hq => ?_, fun k q hq => ?_⟩, va_AO.of (hts _ zarr_ok0.2), hZ, hT, hX, hbl, Nat.le_refl _, fun w hw => ?_⟩
    · by_cases h9 : c < 9
      · rw [zcl_at h9] at hq
        cases hq
        exact hD c h9
      · rw [List.getElem?_eq_none (by simp [zcl]; omega)] at hq
        cases hq
    · match k, hq with
      | 0, hq => cases hq; exact ⟨a1, r1⟩
      | 1, hq => cases hq; exact ⟨a2, r2⟩
      | 2, hq => cases hq; exact ⟨a3, r3⟩
      | 3, hq => cases hq; exact ⟨a4, r4⟩
      | k + 4, hq => cases hq
    · obtain ⟨h1, a, i, y, hh, rfl⟩ := hw
      exact va_Nw.of rfl (hts _ h1)
  have hap : (headSpec (zws 176) (zrm 176)).appliesLoose x e.platform s = true := by
    refine (Spec.appliesLoose_iff hf).mpr ⟨q1, q2, q3, q4, q5, q6, room_le q7, ?_⟩
    refine atoms_intro (ws := zws 176) (fun w hw => ?_)
    rcases List.mem_cons.mp hw with h | h
    · rw [h]
      exact hts0 _ List.mem_cons_self
    · exact hts w (List.mem_filter.mp h).1
  have hPc : zPc (l, s.heap.size, D, (c1, c2, c3, c4), (b, xs.length, fun j => xs.getD j 0), t) 0 (fun _ _ => .null, fun _ _ => 0, fun _ _ => 0) [.ref 9001] args s := ⟨hargs, ⟨rfl, Nat.zero_le _, fun k hk => absurd hk (Nat.not_lt_zero k)⟩, hB⟩
  obtain ⟨n, o, h1, h2, h3, ⟨⟨v, H', ho, hv, hW⟩, hF⟩, L, hFE, hfree⟩ := law_met (X := (l, s.heap.size, D, (c1, c2, c3, c4), (b, xs.length, fun j => xs.getD j 0), t)) hbd (fun _ _ => .null, fun _ _ => 0, fun _ _ => 0) p e ha hc hk s m args below hf hap hPc trivial
  refine ⟨n, o, h1, h2, h3, ?_, hFE.1, hFE.2.1, ?_⟩
  · rw [ho, hv]
    rfl
  · exact hFE.2.2.weaken (fun q hq hlt => absurd hlt (Nat.not_lt.mpr (hfree q hq))) (by decide +kernel) (by decide +kernel)
theorem lw_frame {s t : State} {o : Outcome} {args : Array Value} (h : Framed s o t [] 600000 7302250) :
    Framed s o t (fieldLocs frame_1_writes args s ++ arrayLocs frame_1_arrays args s ++ staticLocs frame_1_statics s) 600000 7302250 := h
theorem lw_limb (L : Cond) (hL : ∀ (args : Array Value) (s t : State), L.after args s (.returned (some (.int 1))) t = true) :
    ArmFor flags0 classFile x code maxLocals ret World_1 tables_1 room_1 Calls_1 rest_1 Pre_1
      (fun tb e a s o t => postC L tb e a s o t ∧ Framed s o t (fieldLocs frame_1_writes a s ++ arrayLocs frame_1_arrays a s ++ staticLocs frame_1_statics s) 600000 7302250) := by
  intro l hflags _ _ p e ha hc hk s m args below hf hfit hheap happ hpre
  obtain ⟨k, o, h1, h2, h3, rfl, hF⟩ := lw_comes l hflags p e ha hc hk s m args below hf hfit hheap happ hpre
  exact ⟨k, _, h1, h2, h3, hL args s _, lw_frame hF⟩
theorem i_vc : Claimed_1_1 ∧ Claimed_1_2 := ⟨lw_limb limb_1_1 (fun args s t => by simp [limb_1_1, Cond.after, Cond.holds, Cond.value]), lw_limb limb_1_2 (fun args s t => Cond.after_iff.mpr (by
  first | (rw [show limb_1_2 = Cond.eq .result (.int 1) from rfl, Cond.eq_ints (x := 1) (y := 1) rfl rfl]; simp; done) | (simp [limb_1_2, Cond.value, Term.eval]; done)))⟩
