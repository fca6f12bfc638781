/-! calls -/
section ZI
variable {X : zX} {y n0 n n' : Nat} {P : Option Value → zHp → Prop} {ls ls' st st' : List Value} {H H' : zHp} {x a b : Nat} {v : Int} {c : List zI}
theorem zsw_sum : ∀ (st : List Value) (k : Nat), zsw st k → ((st.map (zmv X)).map fun v => v.category).sum ≤ k
  | [], k, _ => Nat.zero_le _
  | .long q :: r, k + 2, h => by
    have := zsw_sum r k h
    simp only [List.map_cons, List.sum_cons, zmv, Value.category] at this ⊢
    omega
  | .int q :: r, k + 1, h => by
    have := zsw_sum r k h
    simp only [List.map_cons, List.sum_cons, zmv, Value.category] at this ⊢
    omega
  | .ref q :: r, k + 1, h => by
    have := zsw_sum r k h
    simp only [List.map_cons, List.sum_cons, zmv, Value.category] at this ⊢
    omega
theorem zsw_len : ∀ (st : List Value) (k : Nat), zsw st k → (lg_sl (st.map (zmv X))).length ≤ k
  | [], k, _ => Nat.zero_le _
  | .long q :: r, k + 2, h => by
    have := zsw_len r k h
    simp only [lg_sl, List.map_cons, List.flatMap_cons, zmv, Value.category, List.length_append, if_true, List.length_cons, List.length_nil] at this ⊢
    omega
  | .int q :: r, k + 1, h => by
    have := zsw_len r k h
    simp [lg_sl, List.map_cons, List.flatMap_cons, zmv, Value.category] at this ⊢
    omega
  | .ref q :: r, k + 1, h => by
    have := zsw_len r k h
    simp [lg_sl, List.map_cons, List.flatMap_cons, zmv, Value.category] at this ⊢
    omega
theorem zmok_ok {z : Nat} (h : zmok z = true) : z < 177 ∧ Jvm.Cond.code (zyN z) (zcB z) (zmL z) (zrT z) ∈ zlw ∧ Jvm.Cond.initialized (zyN z).cls ∈ zlw ∧ (zkD z = 0 → Jvm.Cond.static (zyN z) ∈ zlw) ∧ (zkD z ≠ 0 → Jvm.Cond.instanceMethod (zyN z) ∈ zlw) ∧
    (zkD z = 1 → Jvm.Cond.selects (zyN z).cls (zyN z) (zyN z) ∈ zlw ∧ zcI z < 9 ∧ zcN (zcI z) = (zyN z).cls) ∧ (zkD z = 2 → (zyN z).name = "<init>" ∧ zrT z = none) ∧ plainName (zyN z).cls = true ∧
    ((zyN z).cls ≠ "java/lang/invoke/MethodHandle" ∧ (zyN z).cls ≠ "java/lang/invoke/VarHandle" ∧ (parseMethodDescriptor (zyN z).desc).map (fun d => d.parameters.length) = some (znP z)) := by
  unfold zmok at h
  simp only [Bool.and_eq_true, decide_eq_true_eq] at h
  obtain ⟨⟨⟨⟨⟨⟨⟨⟨⟨h0, h1⟩, h2⟩, h3⟩, h4⟩, h5⟩, h6⟩, h7⟩, h8⟩, h9⟩ := h
  refine ⟨h0, zwd_mem h1, zwd_mem h2, fun e => ?_, fun e => ?_, fun e => ?_, fun e => ?_, h6, h7, h8, h9⟩
  · rw [if_pos e] at h3; exact zwd_mem h3
  · rw [if_neg e] at h3; exact zwd_mem h3
  · rw [if_pos e] at h4
    simp only [Bool.and_eq_true, decide_eq_true_eq] at h4
    exact ⟨zwd_mem h4.1.1, h4.1.2, h4.2⟩
  · rw [if_pos e] at h5
    simp only [Bool.and_eq_true, decide_eq_true_eq] at h5
    exact h5
/-- a method's contract out of its first block -/
theorem zCall_of {z : Nat} {As : List Value} {Q : Option Value → zHp → Prop} (hm : zmt z = true) (hk : zmok z = true) (hl : zsw As (zmL z)) (h : zRun X z n n (blk z 0) (zen As) [] H Q) (h0 : zst z 0 = 0) : zCall X z n As H Q := by
  obtain ⟨-, -, -, -, -, -, -, hpl, -⟩ := zmok_ok hk
  refine Met.ofW (cc := zcB z) (maxL := zmL z) (ret := zrT z) hpl rfl ?_
  intro p e s m args below meth c s₁ B hml hv
  obtain ⟨rfl, hW, hB⟩ := hv
  have hts := atoms_spec (ws := zws z) B.pre
  have hl2 := zsw_len (X := X) As _ hl
  have hle := lv_entry (As.map (zmv X)) hl2
  rw [lg_entry_eq]
  have hgo := h hm p e s m _ below meth c ⟨B.exec, B.bytes, B.returns, hml, fun w hw => hts w (List.mem_cons_of_mem _ hw), findClass_of_methodNamed B.named, B.notSynchronized, (name_of_methodNamed B.named B.method).1, hB, hW.1⟩ 0
    (by have := zat_blk hm (t := 0) (by rw [h0]; decide); rwa [h0] at this) _ s.heap [] ⟨⟨_, hle, fun i hi => by simpa using zen_args X As 0 i hi⟩, hW, va_S.rf, Nat.le_refl _, Nat.le_refl _, Nat.le_add_right _ _, Nat.le_add_right _ _⟩
  unfold zGo at hgo
  rw [Nat.sub_self, Nat.sub_self] at hgo
  exact hgo
theorem zPc_blind {As : List Value} : FrameBlind (zPc X n H As) := fun a U g mk q => ⟨q.1, q.2.1, zB_same (u := U) (U := U.calling g mk a) rfl (Vm.Alike.refl U.vm) q.2.2⟩
theorem zPc_at {As : List Value} {s : State} {m : MethodId} {args : Array Value} {meth : Method} {c0 : Code} {p9 : Program} {lsA : Array Slot} {Hm : Heap} {locs : List Loc} (hA : zAct X y n0 p9 s m args meth c0) (hS : zSt X y n0 n s lsA ls H Hm locs) : ∀ U : State, U.heap = Hm → s.WarmedH U.vm → zPc X n H As (As.map (zmv X)).toArray U := by
  intro U hU hW
  refine ⟨rfl, by rw [hU]; exact hS.2.1, ?_⟩
  rw [hU]
  exact zB_warm hW (zB_kept (zBase hA) hS.2.2.1.1 hS.2.2.1.2.1)
theorem zcall_go {p9 : Program} {e : Env} {R : Room} {s : State} {m : MethodId} {args : Array Value} {below : List Frame} {meth : Method} {c0 : Code} {Hm : Heap} {locs : List Loc} {cells slots mc ms pc : Nat} {lsA : Array Slot} {st0 rest : List Value} {Q : Option Value → zHp → Prop} {Qf : State → Prop} {aa : Array Value}
    (hr : va_Run p9 (zl X) e R s m args below meth c0 Hm locs cells slots mc ms (F0 m pc lsA st0) rest (zQc X n' Q aa) (zA X)) (hS : va_S (zA X) s.heap Hm locs)
    (kk : ∀ (w : Option Value) (H' : zHp) (H1 : Heap) (locs1 : List Loc), Q w H' → zWR X n' H' H1 → va_S (zA X) s.heap H1 locs1 → W p9 (zl X) e R s m args below meth c0 H1 locs1 (cells + mc) (slots + ms) Qf (F0 m (pc + 3) lsA ((w.map (zmv X)).toList ++ rest))) :
    W p9 (zl X) e R s m args below meth c0 Hm locs cells slots Qf (F0 m pc lsA st0) := by
  intro T hT Xs
  obtain ⟨v, st₀, t, T', L, h0, X', hL, e1, e2, ⟨⟨w, H', hv, hq, hW⟩, hz, hk⟩, stp⟩ := hr T hT Xs
  cases hv
  rw [h0] at hz hk
  obtain ⟨t2, a1, b1⟩ := kk w H' T'.heap (locs ++ L) hq (by rw [e1]; exact hW)
    ⟨Nat.le_trans hS.1 (by rw [e1]; exact hz), fun q h1 h2 => by rw [e1, hk q (Nat.lt_of_lt_of_le h1 hS.1) h2]; exact hS.2.1 q h1 h2, fun q hq => by
      rcases List.mem_append.mp hq with h | h
      · exact hS.2.2 q h
      · exact hL q h⟩ T' rfl X'
  exact ⟨t2, stp t2 a1, b1⟩
theorem zroom_ok {z : Nat} (h : zroom y z = true) : (zrm z).frames + 1 ≤ (zrm y).frames ∧ 8 + (zmL z + 11) + (zrm z).locals ≤ (zrm y).locals := by
  simpa [zroom] using h
theorem ztl {w : Option Value} {st : List Value} : (w.map (zmv X)).toList ++ st.map (zmv X) = (w.toList ++ st).map (zmv X) := by cases w <;> rfl
theorem zst_map {As rest : List Value} : (As.reverse ++ rest).map (zmv X) = (As.map (zmv X)).reverse ++ rest.map (zmv X) := by simp
theorem zs_invs {k0 : Nat} {As rest : List Value} {Q : Option Value → zHp → Prop} (h8 : x ≠ 998) (h7 : x ≠ 997) (ha : As.length = a) (hst : st = As.reverse ++ rest) (hsw : zsw rest 8) (hc : zmok x = true → zCall X x n As H Q) (ih : ∀ (w : Option Value) (H' : zHp), Q w H' → zRun X y n0 n c ls (w.toList ++ rest) H' P) :
    zRun X y n0 n ((.invokestatic k0, x, a, b, v) :: c) ls st H P := by
  subst hst
  intro hm p9 e s m args below meth c0 hA pc hat lsA Hm locs hS
  obtain ⟨k, hd, hk, hcc⟩ := zat_cons (by nofun) hat
  simp only [zok, if_neg h8, if_neg h7, Bool.and_eq_true, beq_iff_eq] at hk
  obtain ⟨⟨⟨⟨⟨⟨⟨h1, h2⟩, h3⟩, h4⟩, h5⟩, h6⟩, h9⟩, rfl⟩ := hk
  obtain ⟨hz, g1, g2, g3, -, -, -, -, g4⟩ := zmok_ok h2
  have hM := hc h2
  have hR := zroom_ok h5
  have hts := hA.2.2.2.2.1
  have cw := va_cwS (R := zrm y) (own := (zyN y).cls) (index := k0) (y := zyN x) (bytes := zcB x) (maxL := zmL x) (ret := zrT x) (ws := zws x) (rm := zrm x) (mc := zmC x) (ms := zmS x) (znP x) hts
    (zgoodIn _ (fun w hw => by
      unfold va_wsS at hw
      rcases List.mem_append.mp hw with hw | hw
      · simp only [List.mem_cons, List.not_mem_nil, or_false] at hw
        rcases hw with rfl | rfl | rfl
        · exact zwd_mem h1
        · exact g3 h3
        · exact g2
      · rcases List.mem_cons.mp hw with rfl | hw
        · exact g1
        · exact hw)) rfl rfl rfl g4 hR
  have hr := va_runS (meth := meth) (g := F0 m pc lsA ((As.reverse ++ rest).map (zmv X))) (rest := rest.map (zmv X)) (H := Hm) (locs := locs) (cells := n - n0) (slots := zss n - zss n0) (below := below) (e := e) ⟨hA.1, hA.2.1, hA.2.2.2.1, hA.2.2.2.2.2.1, hts⟩ hM cw ⟨zPc_blind, zPc_at hA hS⟩ rfl (by rw [List.length_map, ha, h4]) hS.1.choose_spec.1.1 zst_map (lv_room (zsw_sum rest 8 hsw)) hd
    ⟨by show n - n0 + zmC x ≤ zmC y; have := hS.2.2.2; omega, by show zss n - zss n0 + zmS x ≤ zmS y; have := hS.2.2.2; omega⟩
  refine zcall_go hr hS.2.2.1 fun w H' H1 locs1 hq hW hS1 => ?_
  rw [h6, h9, ztl]
  rw [h6] at hW
  exact ih w H' hq hm p9 e s m args below meth c0 hA (pc + 3) (hcc rfl) lsA H1 locs1 ⟨hS.1, hW, hS1, hS.2.2.2⟩
theorem zs_invv {k0 o : Nat} {As rest : List Value} {Q : Option Value → zHp → Prop} (ho : zokO n o (zcI x)) (ha : As.length + 1 = a) (hst : st = As.reverse ++ .ref o :: rest) (hsw : zsw rest 8) (hc : zmok x = true → zCall X x n (.ref o :: As) H Q) (ih : ∀ (w : Option Value) (H' : zHp), Q w H' → zRun X y n0 n c ls (w.toList ++ rest) H' P) :
    zRun X y n0 n ((.invokevirtual k0, x, a, b, v) :: c) ls st H P := by
  subst hst
  intro hm p9 e s m args below meth c0 hA pc hat lsA Hm locs hS
  obtain ⟨k, hd, hk, hcc⟩ := zat_cons (by nofun) hat
  simp only [zok, Bool.and_eq_true, beq_iff_eq] at hk
  obtain ⟨⟨⟨⟨⟨⟨⟨h1, h2⟩, h3⟩, h4⟩, h5⟩, h6⟩, h9⟩, rfl⟩ := hk
  obtain ⟨hz, g1, g2, -, g3, g5, -, -, g4⟩ := zmok_ok h2
  obtain ⟨g6, g7, g8⟩ := g5 h3
  have hM := hc h2
  have hR := zroom_ok h5
  have hts := hA.2.2.2.2.1
  have cw := cwV (R := zrm y) (own := (zyN y).cls) (C := (zyN x).cls) (index := k0) (y := zyN x) (bytes := zcB x) (maxL := zmL x) (ret := zrT x) (ws := zws x) (rm := zrm x) (mc := zmC x) (ms := zmS x) (znP x) hts
    (zgoodIn _ (fun w hw => by
      unfold wsV at hw
      rcases List.mem_append.mp hw with hw | hw
      · simp only [List.mem_cons, List.not_mem_nil, or_false] at hw
        rcases hw with rfl | rfl | rfl | rfl
        · exact zwd_mem h1
        · exact g3 (by omega)
        · exact g6
        · exact g2
      · rcases List.mem_cons.mp hw with rfl | hw
        · exact g1
        · exact hw)) rfl rfl rfl ⟨rfl, g4⟩ hR
  have hPo := zWR_at (o := o) hS.2.1 ho.1
  rw [zce_obj ho.2] at hPo
  have hrec := va_recv (zBase hA).1 hPo (zcl_at g7) (q0 := 0) rfl
  rw [show (zcN (zcI x), zTT (zcI x), znF (zcI x)).1 = (zyN x).cls from g8] at hrec
  have hsd : zmv X (.ref o) = .ref (zN X + o) := congrArg Value.ref (zad_lt ho.1 hS.2.1.2.1)
  have hpre := zPc_at (As := .ref o :: As) hA hS
  have hr := va_runV (meth := meth) (g := F0 m pc lsA ((As.reverse ++ .ref o :: rest).map (zmv X))) (b := zN X + o) (As := As.map (zmv X)) (rest := rest.map (zmv X)) (H := Hm) (locs := locs) (cells := n - n0) (slots := zss n - zss n0) (below := below) (e := e) ⟨hA.1, hA.2.1, hA.2.2.2.1, hA.2.2.2.2.2.1, hts⟩ hM cw ⟨zPc_blind, hrec, fun U hU hW => by have := hpre U hU hW; rwa [List.map_cons, hsd] at this⟩ rfl (by rw [List.length_map]; omega) hS.1.choose_spec.1.1 (by show (As.reverse ++ .ref o :: rest).map (zmv X) = _; rw [zst_map, List.map_cons, hsd]) (lv_room (zsw_sum rest 8 hsw)) hd
    ⟨by show n - n0 + zmC x ≤ zmC y; have := hS.2.2.2; omega, by show zss n - zss n0 + zmS x ≤ zmS y; have := hS.2.2.2; omega⟩
  refine zcall_go hr hS.2.2.1 fun w H' H1 locs1 hq hW hS1 => ?_
  rw [h6, h9, ztl]
  rw [h6] at hW
  exact ih w H' hq hm p9 e s m args below meth c0 hA (pc + 3) (hcc rfl) lsA H1 locs1 ⟨hS.1, hW, hS1, hS.2.2.2⟩
theorem zs_invi {k0 o : Nat} {As rest : List Value} {Q : Option Value → zHp → Prop} (h8 : x ≠ 999) (ho : o < n) (ha : As.length + 1 = a) (hst : st = As.reverse ++ .ref o :: rest) (hsw : zsw rest 8) (hN : n + zmC x ≤ n0 + zmC y ∧ zss n + zmS x ≤ zss n0 + zmS y ∧ zss (n + zmC x) = zss n + zmS x) (hc : zmok x = true → zCall X x n (.ref o :: As) H Q)
    (ih : ∀ (w : Option Value) (H' : zHp), Q w H' → zRun X y n0 (n + zmC x) c ls (w.toList ++ rest) H' P) :
    zRun X y n0 n ((.invokespecial k0, x, a, b, v) :: c) ls st H P := by
  subst hst
  intro hm p9 e s m args below meth c0 hA pc hat lsA Hm locs hS
  obtain ⟨k, hd, hk, hcc⟩ := zat_cons (by nofun) hat
  simp only [zok, if_neg h8, Bool.and_eq_true, beq_iff_eq] at hk
  obtain ⟨rfl, ⟨⟨⟨h1, h2⟩, h3⟩, h4⟩, h5⟩ := hk
  obtain ⟨hz, g1, g2, -, g3, -, g5, -, g4⟩ := zmok_ok h2
  obtain ⟨g6, g7⟩ := g5 h3
  have hM := hc h2
  have hR := zroom_ok h5
  have hts := hA.2.2.2.2.1
  have hG : GoodIn zlw (zws x) := zgoodIn _ (fun w hw => by
      rcases List.mem_cons.mp hw with rfl | hw
      · exact g1
      · exact hw)
  have hsd : zmv X (.ref o) = .ref (zN X + o) := congrArg Value.ref (zad_lt ho hS.2.1.2.1)
  have hpre := zPc_at (As := .ref o :: As) hA hS
  have hPre : PreS s Hm (zPc X n H (.ref o :: As)) (.ref (zN X + o) :: As.map (zmv X)) := ⟨zPc_blind, fun U hU hW => by have := hpre U hU hW; rwa [List.map_cons, hsd] at this⟩
  have hstk : (As.reverse ++ .ref o :: rest).map (zmv X) = (As.map (zmv X)).reverse ++ .ref (zN X + o) :: rest.map (zmv X) := by rw [zst_map, List.map_cons, hsd]
  have hf : n - n0 + zmC x ≤ (zrm y).cells ∧ zss n - zss n0 + zmS x ≤ (zrm y).slots := ⟨by show n - n0 + zmC x ≤ zmC y; have := hS.2.2.2; omega, by show zss n - zss n0 + zmS x ≤ zmS y; have := hS.2.2.2; omega⟩
  have hws : zws x = Jvm.Cond.code (zyN x) (zcB x) (zmL x) none :: zlw := by rw [← g7]; rfl
  have hr : va_Run p9 (zl X) e (zrm y) s m args below meth c0 Hm locs (n - n0) (zss n - zss n0) (zmC x) (zmS x) (F0 m pc lsA ((As.reverse ++ .ref o :: rest).map (zmv X))) (rest.map (zmv X)) (zQc X (n + zmC x) Q (Value.ref (zN X + o) :: As.map (zmv X)).toArray) (zA X) := by
    by_cases hv : (decide (v = 2) || decide (v = 3)) = true
    · rw [if_pos hv] at h1
      have hnw := zwn_mem h1
      have cw := va_cnB (R := zrm y) (own := (zyN y).cls) (host := "CubeSnakes") (index := k0) (y := zyN x) (bytes := zcB x) (maxL := zmL x) (ret := none) (ws := zws x) (rm := zrm x) (mc := zmC x) (ms := zmS x) (args := args) (znP x) hts hG hws rfl rfl ((zBase hA).2.2.2.2.2.2.2 _ hnw) (hts _ g2) g4 hR
      exact va_runIN ⟨hA.1, hA.2.1, hA.2.2.2.1, hA.2.2.2.2.2.1, hts⟩ hM ⟨cw, g6, hts _ (g3 (by omega))⟩ hPre rfl (by rw [List.length_map]; omega) hS.1.choose_spec.1.1 hstk (lv_room (zsw_sum rest 8 hsw)) hd hf
    · rw [if_neg hv] at h1
      have cw := cwI (R := zrm y) (own := (zyN y).cls) (index := k0) (y := zyN x) (bytes := zcB x) (maxL := zmL x) (ws := zws x) (rm := zrm x) (mc := zmC x) (ms := zmS x) (znP x) hts hG hws rfl rfl (hts _ g2) (hts _ (zwd_mem h1)) (hts _ (g3 (by omega))) g6 g4 hR
      exact va_runI ⟨hA.1, hA.2.1, hA.2.2.2.1, hA.2.2.2.2.2.1, hts⟩ hM cw hPre rfl (by rw [List.length_map]; omega) hS.1.choose_spec.1.1 hstk (lv_room (zsw_sum rest 8 hsw)) hd hf
  refine zcall_go hr hS.2.2.1 fun w H' H1 locs1 hq hW hS1 => ?_
  rw [ztl]
  have e1 : n - n0 + zmC x = n + zmC x - n0 := by have := hS.2.2.2; omega
  have e2 : zss n - zss n0 + zmS x = zss (n + zmC x) - zss n0 := by have := hS.2.2.2; omega
  rw [e1, e2]
  exact ih w H' hq hm p9 e s m args below meth c0 hA (pc + 3) (hcc rfl) lsA H1 locs1 ⟨hS.1, hW, hS1, by have := hS.2.2.2; omega, by have := hS.2.2.2; omega, by have := hS.2.2.2; omega, by have := hS.2.2.2; omega⟩
theorem zs_obj {k0 o : Nat} (h9 : x = 999) (hsw : zsw st 8) (ih : zRun X y n0 n c ls st H P) : zRun X y n0 n ((.invokespecial k0, x, a, b, v) :: c) ls (.ref o :: st) H P :=
  zs_of (by nofun) rfl ih (fun p9 e s m args below meth c0 hA pc k hd hk lsA Hm locs hS kk => by
    simp only [zok, if_pos h9, Bool.and_eq_true, beq_iff_eq, decide_eq_true_eq] at hk
    obtain ⟨rfl, ⟨h1, h2⟩, h3⟩ := hk
    have hts := hA.2.2.2.2.1
    have hsum := zsw_sum (X := X) st 8 hsw
    exact W.objInit hA.1 hA.2.1 hA.2.2.2.2.2.1 (hts _ (zwd_mem h1)) (hts _ zobj_ok.1) (hts _ zobj_ok.2) rfl (by rw [hA.2.2.2.1]; exact hS.1.choose_spec.1.1) rfl hd h2 (by show 2 * 0 + _ + 12 ≤ _; omega) (kk lsA Hm locs hS))
theorem zs_min {k0 : Nat} {p q : Int32} (h9 : x = 998) (hsw : zsw st 8) (ih : zRun X y n0 n c ls (.int (zmin p q) :: st) H P) : zRun X y n0 n ((.invokestatic k0, x, a, b, v) :: c) ls (.int q :: .int p :: st) H P :=
  zs_of (by nofun) rfl ih (fun p9 e s m args below meth c0 hA pc k hd hk lsA Hm locs hS kk => by
    simp only [zok, if_pos h9, Bool.and_eq_true, beq_iff_eq, decide_eq_true_eq] at hk
    obtain ⟨⟨⟨h1, h2⟩, h3⟩, rfl⟩ := hk
    have hts := hA.2.2.2.2.1
    have hsum := zsw_sum (X := X) st 8 hsw
    exact va_mmin hA.1 hA.2.1 (hA.2.2.2.1.trans hS.1.choose_spec.1.1.symm) hA.2.2.2.2.2.1 (hts _ (zwd_mem h1)) (hts _ zmath_ok.1) (hts _ zmath_ok.2.2.2.2) (hts _ zmath_ok.2.2.1) h2 (by omega) (by show n - n0 ≤ zmC y; have := hS.2.2.2; omega) (by show zss n - zss n0 ≤ zmS y; have := hS.2.2.2; omega) hd (kk lsA Hm locs hS))
theorem zs_max {k0 : Nat} {p q : Int32} (h9 : x = 997) (hsw : zsw st 8) (ih : zRun X y n0 n c ls (.int (zmax p q) :: st) H P) : zRun X y n0 n ((.invokestatic k0, x, a, b, v) :: c) ls (.int q :: .int p :: st) H P :=
  zs_of (by nofun) rfl ih (fun p9 e s m args below meth c0 hA pc k hd hk lsA Hm locs hS kk => by
    subst h9
    simp only [zok, Nat.reduceEqDiff, if_false, if_true, Bool.and_eq_true, beq_iff_eq, decide_eq_true_eq] at hk
    obtain ⟨⟨⟨h1, h2⟩, h3⟩, rfl⟩ := hk
    have hts := hA.2.2.2.2.1
    have hsum := zsw_sum (X := X) st 8 hsw
    exact va_mmax hA.1 hA.2.1 (hA.2.2.2.1.trans hS.1.choose_spec.1.1.symm) hA.2.2.2.2.2.1 (hts _ (zwd_mem h1)) (hts _ zmath_ok.2.1) (hts _ zmath_ok.2.2.2.2) (hts _ zmath_ok.2.2.2.1) h2 (by omega) (by show n - n0 ≤ zmC y; have := hS.2.2.2; omega) (by show zss n - zss n0 ≤ zmS y; have := hS.2.2.2; omega) hd (kk lsA Hm locs hS))
end ZI
