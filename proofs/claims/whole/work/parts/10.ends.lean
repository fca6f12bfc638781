/-! new cells, calls, ends -/
section ZC
variable {X : zX} {y n0 n n' : Nat} {P : Option Value → zHp → Prop} {ls ls' st st' : List Value} {H H' : zHp} {x a b : Nat} {v : Int} {c : List zI}
theorem zss_1 (n : Nat) : zss (n + 1) = zss n + zsl n := rfl
theorem zSt_new {s : State} {lsA : Array Slot} {Hm H1 : Heap} {locs : List Loc} (hN : zokN y n0 n) (h : zSt X y n0 n s lsA ls H Hm locs) (hsz : H1.size = Hm.size + 1) (hoq : ∀ q : Nat, q < Hm.size → H1[q]? = Hm[q]?) (hW : zWR X (n + 1) H' H1) : zSt X y n0 (n + 1) s lsA ls H' H1 locs :=
  ⟨h.1, hW, ⟨Nat.le_trans h.2.2.1.1 (by omega), fun q h1 h2 => (hoq q (Nat.lt_of_lt_of_le h1 h.2.2.1.1)).trans (h.2.2.1.2.1 q h1 h2), h.2.2.1.2.2⟩, Nat.le_succ_of_le h.2.2.2.1, Nat.le_trans h.2.2.2.2.1 (Nat.le_add_right _ _), hN.1, hN.2⟩
theorem zarr_same {s : State} {t0 : Nat} {cA cB : ClassId} {ty : FieldType} {tys : List (ClassId × FieldType)} {D : va_G} {cl : List vw_C} (hK : va_K D cl tys s) (ht : tys[t0]? = some (cB, ty)) (hp : ∀ C, ty ≠ .object C) (h : s.vm.findClass ("[" ++ ty.toString) = some cA) : cA = cB := by
  have h2 := (hK.2 t0 _ ht).2
  cases ty with
  | object C => exact absurd rfl (hp C)
  | _ => exact Option.some.inj (h.symm.trans h2)
theorem zs_new {k0 : Nat} (hsh : zsh n = (0, x)) (hN : zokN y n0 n) (hn : n < 100) (ih : zRun X y n0 (n + 1) c ls (.ref n :: st) (zrF H n (zdf x)) P) : zRun X y n0 n ((.new k0, x, a, b, v) :: c) ls st H P :=
  zs_of (by nofun) rfl ih (fun p9 e s m args below meth c0 hA pc k hd hk lsA Hm locs hS kk => by
    have hk2 : (x < 9 ∧ zwd b (.classLink (zyN y).cls k0 (zcN x)) = true) ∧ k = 3 := by simpa [zok] using hk
    obtain ⟨⟨h1, h2⟩, rfl⟩ := hk2
    have hc := zcl_at h1
    have hKn := (zBase hA).1.1 x _ hc
    have hsl : zsl n = znF x := by simp [zsl, hsh]
    have hs1 := zss_1 n
    obtain ⟨hN1, hN2⟩ := hN
    refine W.newcK hA.1 hA.2.1 hA.2.2.2.2.2.1 (hA.2.2.2.2.1 _ (zwd_mem h2)) (hA.2.2.2.2.1 _ (zinst_ok x h1).1) (hA.2.2.2.2.1 _ (zinst_ok x h1).2) rfl hd (by show n - n0 + 1 ≤ zmC y; have := hS.2.2.2.1; omega) (by show zss n - zss n0 + znF x ≤ zmS y; have := hS.2.2.2.2.1; omega) hKn.2.1 rfl fun H1 kC hkC e1 z1 o1 => ?_
    have hat : va_at (zD X) zcl (zN X + n, zce X (zrF H n (zdf x)) n) H1 := by
      rw [zce_obj hsh]
      have hb := u_born (ztY x) hA.2.2.2.2.1 (zin_ok x h1) hKn hkC e1 (zty_ok x h1)
      rw [hS.2.1.1] at hb
      refine ⟨_, hc, hb.to fun j hj => ?_⟩
      have e5 : vp_V ((List.range (znF x)).map fun j => zmv X ((zrF H n (zdf x)).1 n j)) j = zmv X (zdf x j) := by
        simp [vp_V, zrF, List.getD_eq_getElem?_getD, hj]
      rw [e5]
      show defaultValue (ztY x j) = zmv X (defaultValue (ztY x j))
      cases ztY x j <;> rfl
    have hW := zWR_new (H' := zrF H n (zdf x)) hS.2.1 (by omega) z1 o1 hat (fun k hk => zrest_rF hk)
    have hr := kk lsA H1 locs (zSt_new ⟨hN1, hN2⟩ hS z1 o1 hW)
    have e6 : Hm.size = zN X + n := hS.2.1.1
    have e7 : zmv X (.ref n) = .ref Hm.size := by rw [e6]; exact congrArg Value.ref (zad_lt (n := n + 1) (by omega) (by omega))
    have hr' : W p9 (zl X) e (zrm y) s m args below meth c0 H1 locs (n + 1 - n0) (zss (n + 1) - zss n0) (MQ below (zQc X (n0 + zmC y) P) args s (zmC y) (zmS y) (zA X)) (F0 m (pc + 3) lsA (zmv X (.ref n) :: st.map (zmv X))) := hr
    rw [e7] at hr'
    have e8 : n + 1 - n0 = n - n0 + 1 := by have := hS.2.2.2.1; omega
    have e9 : zss (n + 1) - zss n0 = zss n - zss n0 + znF x := by have := hS.2.2.2.2.1; omega
    rw [e8, e9] at hr'
    exact hr')
theorem zs_newarray {k0 : Jvm.ClassFile.ArrayType} {q : Int32} (hsh : (zsh n).1 = x) (hq : zal n < 100000 ∧ q = nI (zal n)) (hN : zokN y n0 n) (hn : n < 100) (ih : zRun X y n0 (n + 1) c ls (.ref n :: st) (if x = 2 then zrL H n (fun _ => 0) else zrI H n (fun _ => 0)) P) : zRun X y n0 n ((.newarray k0, x, a, b, v) :: c) ls (.int q :: st) H P :=
  zs_of (by nofun) rfl ih (fun p9 e s m args below meth c0 hA pc k hd hk lsA Hm locs hS kk => by
    have hs1 := zss_1 n
    obtain ⟨hN1, hN2⟩ := hN
    have e6 : Hm.size = zN X + n := hS.2.1.1
    have hcl : (nI (zal n)).toNatClampNeg = zal n := nI_clamp (by omega)
    have hpos : ¬ nI (zal n) < 0 := nI_pos (by omega)
    have e7 : zmv X (.ref n) = .ref Hm.size := by rw [e6]; exact congrArg Value.ref (zad_lt (n := n + 1) (by omega) (by omega))
    have e8 : n + 1 - n0 = n - n0 + 1 := by have := hS.2.2.2.1; omega
    have h3 := hS.2.2.2.1
    have h4 := hS.2.2.2.2.1
    have hsl : x ≠ 0 → zsl n = zal n := fun hx => by simp [zsl, hsh, hx, zal]
    have e9 : x ≠ 0 → zss (n + 1) - zss n0 = zss n - zss n0 + zal n := fun hx => by have := hsl hx; omega
    have fin : ∀ (H2 : zHp) (H1 : Heap), (if x = 2 then zrL H n (fun _ => 0) else zrI H n (fun _ => 0)) = H2 → H1.size = Hm.size + 1 → (∀ q, q < Hm.size → H1[q]? = Hm[q]?) → va_at (zD X) zcl (zN X + n, zce X H2 n) H1 → (∀ k, k ≠ n → zce X H2 k = zce X H k) → x ≠ 0 → k = 2 →
        W p9 (zl X) e (zrm y) s m args below meth c0 H1 locs (n - n0 + 1) (zss n - zss n0 + zal n) (MQ below (zQc X (n0 + zmC y) P) args s (zmC y) (zmS y) (zA X)) (F0 m (pc + 2) lsA (.ref Hm.size :: st.map (zmv X))) := by
      intro H2 H1 h2 z1 o1 hat hrest hx hk2
      subst hk2
      rw [h2] at kk
      have hr := kk lsA H1 locs (zSt_new ⟨hN1, hN2⟩ hS z1 o1 (zWR_new hS.2.1 (by omega) z1 o1 hat hrest))
      have hr' : W p9 (zl X) e (zrm y) s m args below meth c0 H1 locs (n + 1 - n0) (zss (n + 1) - zss n0) (MQ below (zQc X (n0 + zmC y) P) args s (zmC y) (zmS y) (zA X)) (F0 m (pc + 2) lsA (zmv X (.ref n) :: st.map (zmv X))) := hr
      rw [e7, e8, e9 hx] at hr'
      exact hr'
    obtain ⟨hq1, rfl⟩ := hq
    cases k0 with
    | int =>
      have hk2 : x = 1 ∧ k = 2 := by simpa [zok] using hk
      obtain ⟨rfl, rfl⟩ := hk2
      refine va_newaK hA.1 hA.2.1 (atype := .int) (hA.2.2.2.2.1 _ zarr_ok.1) rfl hd rfl hpos hcl (by show zal n * 4 ≤ _; omega) (by show n - n0 + 1 ≤ zmC y; omega) (by show zss n - zss n0 + zal n ≤ zmS y; have := hsl (by decide); omega) rfl fun H1 cA e1 z1 o1 hAr hNm => ?_
      obtain rfl := zarr_same (t0 := 0) (zBase hA).1 rfl (by nofun) hNm
      refine fin _ H1 rfl z1 o1 ?_ (fun k hk => zrest_rI hk) (by decide) rfl
      rw [zce_1 hsh]
      show H1[zN X + n]? = some (vp_cell _ _)
      rw [← e6, e1, vp_cell_i]
      simp [zrI, newarray.typeOf, defaultValue]
    | long =>
      have hk2 : x = 2 ∧ k = 2 := by simpa [zok] using hk
      obtain ⟨rfl, rfl⟩ := hk2
      refine va_newaK hA.1 hA.2.1 (atype := .long) (hA.2.2.2.2.1 _ zarr_ok.2.1) rfl hd rfl hpos hcl (by show zal n * 8 ≤ _; omega) (by show n - n0 + 1 ≤ zmC y; omega) (by show zss n - zss n0 + zal n ≤ zmS y; have := hsl (by decide); omega) rfl fun H1 cA e1 z1 o1 hAr hNm => ?_
      obtain rfl := zarr_same (t0 := 1) (zBase hA).1 rfl (by nofun) hNm
      refine fin _ H1 rfl z1 o1 ?_ (fun k hk => zrest_rL hk) (by decide) rfl
      rw [zce_2 hsh]
      show H1[zN X + n]? = some (vp_cell _ _)
      rw [← e6, e1, vp_cell_l]
      simp [zrL, newarray.typeOf, defaultValue]
    | byte =>
      have hk2 : x = 3 ∧ k = 2 := by simpa [zok] using hk
      obtain ⟨rfl, rfl⟩ := hk2
      refine va_newaK hA.1 hA.2.1 (atype := .byte) (hA.2.2.2.2.1 _ zarr_ok.2.2) rfl hd rfl hpos hcl (by show zal n * 1 ≤ _; omega) (by show n - n0 + 1 ≤ zmC y; omega) (by show zss n - zss n0 + zal n ≤ zmS y; have := hsl (by decide); omega) rfl fun H1 cA e1 z1 o1 hAr hNm => ?_
      obtain rfl := zarr_same (t0 := 2) (zBase hA).1 rfl (by nofun) hNm
      refine fin _ H1 rfl z1 o1 ?_ (fun k hk => zrest_rI hk) (by decide) rfl
      rw [zce_3 hsh]
      show H1[zN X + n]? = some (vp_cell _ _)
      rw [← e6, e1, vp_cell_i]
      simp [zrI, newarray.typeOf, defaultValue]
    | _ => simp [zok] at hk)
theorem zs_anewarray {k0 : Nat} {q : Int32} (hsh : (zsh n).1 = 4) (hq : zal n < 100000 ∧ q = nI (zal n)) (hN : zokN y n0 n) (hn : n < 100) (ih : zRun X y n0 (n + 1) c ls (.ref n :: st) (zrF H n (fun _ => .null)) P) : zRun X y n0 n ((.anewarray k0, x, a, b, v) :: c) ls (.int q :: st) H P :=
  zs_of (by nofun) rfl ih (fun p9 e s m args below meth c0 hA pc k hd hk lsA Hm locs hS kk => by
    have hk2 : zwd b (.classLink (zyN y).cls k0 "CubeSnakes$Rope") = true ∧ k = 3 := by simpa [zok] using hk
    obtain ⟨h2, rfl⟩ := hk2
    have hs1 := zss_1 n
    obtain ⟨hN1, hN2⟩ := hN
    have e6 : Hm.size = zN X + n := hS.2.1.1
    have hcl : (nI (zal n)).toNatClampNeg = zal n := nI_clamp (by omega)
    have hpos : ¬ nI (zal n) < 0 := nI_pos (by omega)
    have e7 : zmv X (.ref n) = .ref Hm.size := by rw [e6]; exact congrArg Value.ref (zad_lt (n := n + 1) (by omega) (by omega))
    have h3 := hS.2.2.2.1
    have h4 := hS.2.2.2.2.1
    have hsl : zsl n = zal n := by simp [zsl, hsh, zal]
    have e8 : n + 1 - n0 = n - n0 + 1 := by omega
    have e9 : zss (n + 1) - zss n0 = zss n - zss n0 + zal n := by omega
    obtain ⟨hq1, rfl⟩ := hq
    refine W.anew hA.1 hA.2.1 hA.2.2.2.2.2.1 (hA.2.2.2.2.1 _ (zwd_mem h2)) (va_AO.use (zBase hA).2.1) rfl hd rfl hpos (by rw [hcl]; omega) (by show n - n0 + 1 ≤ zmC y; omega) (by show zss n - zss n0 + (nI (zal n)).toNatClampNeg ≤ zmS y; rw [hcl]; omega) fun cA kA comp f1 f2 f3 f4 => ?_
    rw [hcl]
    generalize hH1 : Hm.push ({ cls := cA, slots := Array.replicate (zal n) .null, vm := .none } : Cell) = H1
    have z1 : H1.size = Hm.size + 1 := by rw [← hH1, Array.size_push]
    have e1 : H1[Hm.size]? = some (arrV cA (zal n) (fun _ => .null)) := by rw [← hH1, Array.getElem?_push_size, ← arrV_new]
    have o1 : ∀ q : Nat, q < Hm.size → H1[q]? = Hm[q]? := fun q hq => by rw [← hH1, Array.getElem?_push, if_neg (Nat.ne_of_lt hq)]
    have hcA : cA = (zcs X).2.2.2 := by
      obtain ⟨kB, comp2, k1, k2, k3, k4⟩ := ((zBase hA).1.2 3 _ rfl).2
      exact Option.some.inj (f1.symm.trans k4)
    have hat : va_at (zD X) zcl (zN X + n, zce X (zrF H n (fun _ => .null)) n) H1 := by
      rw [zce_4 hsh]
      show H1[zN X + n]? = some (vp_cell _ _)
      rw [← e6, e1, vp_cell_q, hcA]
      simp [zrF, zmv, zrO, va_rf]
    have hr := kk lsA H1 locs (zSt_new ⟨hN1, hN2⟩ hS z1 o1 (zWR_new hS.2.1 (by omega) z1 o1 hat (fun k hk => zrest_rF hk)))
    have hr' : W p9 (zl X) e (zrm y) s m args below meth c0 H1 locs (n + 1 - n0) (zss (n + 1) - zss n0) (MQ below (zQc X (n0 + zmC y) P) args s (zmC y) (zmS y) (zA X)) (F0 m (pc + 3) lsA (zmv X (.ref n) :: st.map (zmv X))) := hr
    rw [e7, e8, e9] at hr'
    exact hr')
/-! switches -/
theorem zs_table {d lo hi : Int} {offs : Array Int} {q : Int32} (h1 : ∀ j, j < a → q = nI j → zRun X y n0 n (blk y (x + j)) ls st H P) (h2 : (∀ j, j < a → ¬ q = nI j) → zRun X y n0 n (blk y (x + a)) ls st H P) : zRun X y n0 n ((.tableswitch d lo hi offs, x, a, b, v) :: c) ls (.int q :: st) H P := by
  intro hm p9 e s m args below meth c0 hA pc hat lsA Hm locs hS
  obtain ⟨k, hd, hk, -⟩ := zat_cons (by nofun) hat
  simp only [zok, Bool.and_eq_true, decide_eq_true_eq, List.all_eq_true, List.mem_range] at hk
  obtain ⟨⟨⟨⟨rfl, h4⟩, h5⟩, h6⟩, h7⟩ := hk
  by_cases hq : q.toInt < 0 ∨ hi < q.toInt
  · obtain ⟨g3, g4⟩ := zoff_ok h6
    refine lv_tableOut hA.1 hA.2.1 hd hq g3 (h2 (fun j hj e => ?_) hm p9 e s m args below meth c0 hA (zst y (x + a)) (zat_blk hm g4) lsA Hm locs hS)
    subst e
    rw [nI_toInt (by omega)] at hq
    omega
  · have h8 : ¬ q.toInt < 0 := fun z => hq (Or.inl z)
    have h9 : ¬ hi < q.toInt := fun z => hq (Or.inr z)
    have hj : (q.toInt - 0).toNat < a := by omega
    have h10 := h7 _ hj
    cases ho : offs[(q.toInt - 0).toNat]? with
    | none => rw [ho] at h10; cases h10
    | some o =>
      rw [ho] at h10
      obtain ⟨g3, g4⟩ := zoff_ok h10
      refine lv_tableIn hA.1 hA.2.1 hd h8 h9 ho g3 (h1 _ hj ?_ hm p9 e s m args below meth c0 hA (zst y (x + (q.toInt - 0).toNat)) (zat_blk hm g4) lsA Hm locs hS)
      refine Int32.toInt_inj.mp ?_
      rw [nI_toInt (by omega)]
      omega
/-! ends -/
theorem zend {s : State} {m : MethodId} {args : Array Value} {meth : Method} {c0 : Code} {p9 : Program} {e : Env} {below : List Frame} {lsA : Array Slot} {Hm : Heap} {locs : List Loc} {pc : Nat} (hE : zokE y n0 n) (hS : zSt X y n0 n s lsA ls H Hm locs)
    (k : W p9 (zl X) e (zrm y) s m args below meth c0 Hm locs (zmC y) (zmS y) (MQ below (zQc X (n0 + zmC y) P) args s (zmC y) (zmS y) (zA X)) (F0 m pc lsA (st.map (zmv X)))) : zGo X y n0 n P p9 e s m args below meth c0 pc lsA st Hm locs :=
  W.widen (by have := hE.1; omega) (by have := hE.2; have := hS.2.2.2.2.1; omega) k
theorem zpost {w : Option Value} {w2 : Option Value} {s : State} {args : Array Value} {lsA : Array Slot} {Hm : Heap} {locs : List Loc} (hE : zokE y n0 n) (hS : zSt X y n0 n s lsA ls H Hm locs) (hP : P w H) (hw : w.map (zmv X) = w2) : ∀ t : State, t.heap = Hm → s.WarmedH t.vm → zQc X (n0 + zmC y) P args s (.returned w2) t := by
  intro t ht _
  refine ⟨⟨w, H, by rw [hw], hP, ?_⟩, hS.2.2.1.F ht⟩
  rw [ht, ← hE.1]
  exact hS.2.1
theorem zs_ireturn {q : Int32} (hv : zokV v (.int q)) (hE : zokE y n0 n) (hP : P (some (.int q)) H) : zRun X y n0 n ((.ireturn, x, a, b, v) :: c) ls [.int q] H P := by
  intro hm p9 e s m args below meth c0 hA pc hat lsA Hm locs hS
  obtain ⟨k, hd, hk, -⟩ := zat_cons (by nofun) hat
  have hk2 : (zrT y = some .int ∧ v = 0 ∨ zrT y = some .boolean ∧ v = 2) ∧ k = 1 := by simpa [zok] using hk
  obtain ⟨h1, rfl⟩ := hk2
  refine zend hE hS ?_
  have hf := hS.2.2.1.2.2
  rcases h1 with ⟨h1, rfl⟩ | ⟨h1, rfl⟩
  · exact W.iret hA.1 hA.2.1 (hA.2.2.1.trans h1) (zpost hE hS hP rfl) hf hd hA.2.2.2.2.2.2.1
  · have hn : narrow .boolean (.int q) = .int q := by
      rcases hv with hv | ⟨-, hv | hv⟩
      · cases hv
      · subst hv; decide
      · subst hv; decide
    exact W.zret hA.1 hA.2.1 (hA.2.2.1.trans h1) hn (zpost hE hS hP rfl) hf hd hA.2.2.2.2.2.2.1
theorem zs_lreturn {q : Int64} (hE : zokE y n0 n) (hP : P (some (.long q)) H) : zRun X y n0 n ((.lreturn, x, a, b, v) :: c) ls [.long q] H P := by
  intro hm p9 e s m args below meth c0 hA pc hat lsA Hm locs hS
  obtain ⟨k, hd, hk, -⟩ := zat_cons (by nofun) hat
  have hk2 : zrT y = some .long ∧ k = 1 := by simpa [zok] using hk
  obtain ⟨h1, rfl⟩ := hk2
  exact zend hE hS (W.lret hA.1 hA.2.1 (hA.2.2.1.trans h1) (zpost hE hS hP rfl) hS.2.2.1.2.2 hd hA.2.2.2.2.2.2.1)
theorem zs_areturn {q : Nat} (hE : zokE y n0 n) (hP : P (some (.ref q)) H) : zRun X y n0 n ((.areturn, x, a, b, v) :: c) ls [.ref q] H P := by
  intro hm p9 e s m args below meth c0 hA pc hat lsA Hm locs hS
  obtain ⟨k, hd, hk, -⟩ := zat_cons (by nofun) hat
  have hk2 : zrT y = some (.object "CubeSnakes$Rope") ∧ k = 1 := by simpa [zok] using hk
  obtain ⟨h1, rfl⟩ := hk2
  exact zend hE hS (W.aret hA.1 hA.2.1 (hA.2.2.1.trans h1) (Or.inl ⟨_, rfl⟩) (Or.inr ⟨_, rfl⟩) (zpost hE hS hP rfl) hS.2.2.1.2.2 hd hA.2.2.2.2.2.2.1)
theorem zs_return (hE : zokE y n0 n) (hP : P none H) : zRun X y n0 n ((.return_, x, a, b, v) :: c) ls [] H P := by
  intro hm p9 e s m args below meth c0 hA pc hat lsA Hm locs hS
  obtain ⟨k, hd, hk, -⟩ := zat_cons (by nofun) hat
  have hk2 : zrT y = none ∧ k = 1 := by simpa [zok] using hk
  obtain ⟨h1, rfl⟩ := hk2
  exact zend hE hS (W.vret hA.1 hA.2.1 (hA.2.2.1.trans h1) (zpost hE hS hP rfl) hS.2.2.1.2.2 hd hA.2.2.2.2.2.2.1)
end ZC
