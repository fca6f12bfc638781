/-! seeking: the reference -/
def zro (stp : zSta → Option zSta) (up : zAc → zSta → Option zAc) (n : Nat) (o : Option zSta) (a : zAc) (t : Nat) : zAc × Nat × Bool := match o with
  | none => (a, t, true)
  | some s' => match n with
    | 0 => (a, t, false)
    | n + 1 => zrn stp up n s' a (t + 1)
theorem zro_run {stp : zSta → Option zSta} {up : zAc → zSta → Option zAc} {n : Nat} {s : zSta} {a : zAc} {t : Nat} : zrun stp up n s a t = zro stp up n (stp s) a t := by
  cases h : stp s with
  | none => rw [zrun_end h]; rfl
  | some s' =>
    cases n with
    | zero => rw [zrun_0 h]; rfl
    | succ n => rw [zrun_rn h]; rfl
theorem zro_no {stp : zSta → Option zSta} {up : zAc → zSta → Option zAc} {n : Nat} {a : zAc} {t : Nat} : zro stp up n none a t = (a, t, true) := rfl
theorem zro_0 {stp : zSta → Option zSta} {up : zAc → zSta → Option zAc} {s : zSta} {a : zAc} {t : Nat} : zro stp up 0 (some s) a t = (a, t, false) := rfl
theorem zro_s0 {stp : zSta → Option zSta} {up : zAc → zSta → Option zAc} {n : Nat} {s : zSta} {a : zAc} {t : Nat} (h : up a s = none) : zro stp up (n + 1) (some s) a t = (a, t + 1, false) := by
  show zrn stp up n s a (t + 1) = _
  rw [zrn_no h]
theorem zro_s {stp : zSta → Option zSta} {up : zAc → zSta → Option zAc} {n : Nat} {s : zSta} {a a' : zAc} {t : Nat} (h : up a s = some a') : zro stp up (n + 1) (some s) a t = zro stp up n (stp s) a' (t + 1) := by
  show zrn stp up n s a (t + 1) = _
  rw [zrn_yes h, zro_run]
/-- the next try from a head: a row and the next of its ways -/
def zph (hw : List Nat → Nat → Nat) (D m : Nat) (v : List Nat) (x : Nat) : Option zSta := if m ≤ v.length then (match v.reverse with
    | [] => none
    | z :: r => zbk hw D r (z + 1))
  else zbk hw D v.reverse x
theorem zph_on {hw : List Nat → Nat → Nat} {D m x : Nat} {v : List Nat} (h : v.length < m) : zph hw D m v x = zbk hw D v.reverse x := if_neg (by omega)
theorem zph_nil {hw : List Nat → Nat → Nat} {D m x : Nat} (h : D ≤ x ∨ m = 0) : zph hw D m [] x = none := by
  by_cases h2 : 0 < m
  · rw [zph_on h2]
    refine zbk_nil (zsc_none (fun y h3 h4 => ?_))
    omega
  · unfold zph
    rw [if_pos (by simp; omega)]
    rfl
theorem zph_back {hw : List Nat → Nat → Nat} {D m x z : Nat} {v : List Nat} (h1 : v.length + 1 ≤ m) (h : D ≤ x ∨ m ≤ v.length + 1) : zph hw D m (v ++ [z]) x = zph hw D m v (z + 1) := by
  rw [zph_on (v := v) (by omega)]
  by_cases h2 : v.length + 1 < m
  · rw [zph_on (by simp; omega), List.reverse_append]
    refine zbk_cons (zsc_none (fun y h3 h4 => ?_))
    omega
  · unfold zph
    rw [if_pos (by simp; omega), List.reverse_append]
    rfl
theorem zph_miss {hw : List Nat → Nat → Nat} {D m x : Nat} {v : List Nat} (h1 : v.length < m) (h : hw v x = 0) : zph hw D m v x = zph hw D m v (x + 1) := by
  rw [zph_on h1, zph_on h1]
  exact zbk_miss (by rw [List.reverse_reverse]; exact h)
theorem zph_hit {hw : List Nat → Nat → Nat} {D m x : Nat} {v : List Nat} (h1 : v.length < m) (hx : x < D) (h : hw v x ≠ 0) : zph hw D m v x = some (v ++ [x], hw v x) := by
  rw [zph_on h1]
  have := zbk_hit (hw := hw) (D := D) (rv := v.reverse) (x := x) (zsc_hit hx (by rw [List.reverse_reverse]; exact h))
  rw [List.reverse_reverse] at this
  exact this
theorem znt_ph1 {hw : List Nat → Nat → Nat} {D m : Nat} {v : List Nat} : znt hw D m (v, 1) = zph hw D m v 0 := by
  unfold znt zph
  by_cases h : m ≤ v.length
  · rw [if_pos (Or.inr h), if_pos h]
    rfl
  · rw [if_neg (by simp; omega), if_neg h]
theorem znt_ph2 {hw : List Nat → Nat → Nat} {D m x : Nat} {v : List Nat} (h : v.length < m) : znt hw D m (v ++ [x], 2) = zph hw D m v (x + 1) := by
  rw [znt_back (Or.inl rfl), zph_on h]
/-- what is known of the classes between the tries -/
def zhd (v : List Nat) (x h : Nat) : List Nat × Nat := if h = 2 then (v, x + 1) else (v ++ [x], 0)
def zJok (D m : Nat) (hw : List Nat → Nat → Nat) (ring : Bool) (LF : List Nat → List Nat) (J : List Nat → Nat → List (List Nat) → Prop) : Prop :=
  (∀ v x cs, J v x cs → hw v x = 0 → x < D → v.length < m → J v (x + 1) cs) ∧
  (∀ v z x cs, J (v ++ [z]) x cs → (D ≤ x ∨ m ≤ v.length + 1) → v.length + 1 ≤ m → J v (z + 1) cs) ∧
  (∀ v x cs, J v x cs → x < D → v.length < m → hw v x ≠ 0 → ¬ (zmet ring (v ++ [x], hw v x) = true ∧ v.length + 1 = m) → J (zhd v x (hw v x)).1 (zhd v x (hw v x)).2 cs) ∧
  (∀ v x cs, J v x cs → x < D → v.length + 1 = m → hw v x ≠ 0 → zmet ring (v ++ [x], hw v x) = true →
    (LF (v ++ [x]) = v ++ [x] ∧ (∀ c ∈ cs, zlt m c (v ++ [x])) ∧ J (zhd v x (hw v x)).1 (zhd v x (hw v x)).2 (cs ++ [v ++ [x]])) ∨
    (LF (v ++ [x]) ≠ v ++ [x] ∧ (∃ pre post, cs = pre ++ LF (v ++ [x]) :: post ∧ ∀ c ∈ pre, zlt m c (LF (v ++ [x]))) ∧ J (zhd v x (hw v x)).1 (zhd v x (hw v x)).2 cs))
/-! the reference's cells -/
theorem zIM_tr {H : zHp} {S : zU} (T : Int32) (hI : zIM H S) : zIM (zsF H 50 15 (.int T)) (zUt S T S.2.2.2.1.2) := by
  obtain ⟨-, k1, -, k3, k4, k5, k6, -⟩ := id hI
  refine zIM_of (T := fun a => a = 50) hI (zsm_F zsm_rf rfl) (zRf_sF hI.1 (by decide)) (Or.inr ⟨⟨?_, ?_, ?_⟩, ?_, ⟨h_Fs _ _ _ _, ?_⟩, ?_, ?_⟩) (fun p hp => Or.inl ⟨by decide, by decide, rfl⟩) (Or.inl ⟨by decide, rfl⟩) (Or.inl ⟨by decide, rfl⟩)
  · simp (disch := omega) only [h_FF]; exact k1.1
  · simp (disch := omega) only [h_FF]; exact k1.2.1
  · simp (disch := omega) only [h_FF]; exact k1.2.2
  · simp (disch := omega) only [h_FF]; exact k3.2
  · simp (disch := omega) only [h_FF]; exact k4.2
  · simp (disch := omega) only [h_FF]; exact k5
  · simp (disch := omega) only [h_FF]; exact k6
theorem zIM_ask {H : zHp} {S : zU} (A : Int64) (hI : zIM H S) : zIM (zsF H 50 16 (.long A)) (zUt S S.2.2.2.1.1 A) := by
  obtain ⟨-, k1, -, k3, k4, k5, k6, -⟩ := id hI
  refine zIM_of (T := fun a => a = 50) hI (zsm_F zsm_rf rfl) (zRf_sF hI.1 (by decide)) (Or.inr ⟨⟨?_, ?_, ?_⟩, ?_, ⟨?_, h_Fs _ _ _ _⟩, ?_, ?_⟩) (fun p hp => Or.inl ⟨by decide, by decide, rfl⟩) (Or.inl ⟨by decide, rfl⟩) (Or.inl ⟨by decide, rfl⟩)
  · simp (disch := omega) only [h_FF]; exact k1.1
  · simp (disch := omega) only [h_FF]; exact k1.2.1
  · simp (disch := omega) only [h_FF]; exact k1.2.2
  · simp (disch := omega) only [h_FF]; exact k3.2
  · simp (disch := omega) only [h_FF]; exact k4.1
  · simp (disch := omega) only [h_FF]; exact k5
  · simp (disch := omega) only [h_FF]; exact k6
def zMn (H : zHp) (v : List Nat) (x : Nat) : Prop := (∀ j, j < v.length → H.2.1 61 j = nI (v.getD j 0 + 1)) ∧ H.2.1 61 v.length = nI x
/-- at a row u, the ways behind v being tried up to x; what is kept -/
def zMq (H0 H : zHp) (S : zU) (ring two : Bool) (m t x : Nat) (v u b : List Nat) (cs : List (List Nat)) : Prop := (zfM H0 H ∧ zIM H (zUn S t) ∧ zRw H u ∧ H.1 50 20 = .int (zb1 ring)) ∧ zMn H v x ∧ zBs H b ∧ (two = true → zCl H m cs)
theorem zMn_sm {H H' : zHp} {v : List Nat} {x : Nat} {T : Nat → Prop} (h : zMn H v x) (hs : zsm T H H') (hT : ¬ T 61) : zMn H' v x := by
  unfold zMn
  rw [(hs 61 hT).2.1]
  exact h
theorem zCl_sm {H H' : zHp} {m : Nat} {cs : List (List Nat)} {T : Nat → Prop} (h : zCl H m cs) (hs : zsm T H H') (hT : ¬ T 63) (h22 : H'.1 50 22 = H.1 50 22) : zCl H' m cs := by
  unfold zCl
  rw [(hs 63 hT).2.1, h22]
  exact h
theorem zBs_sm {H H' : zHp} {b : List Nat} {T : Nat → Prop} (h : zBs H b) (hs : zsm T H H') (hT : ¬ T 62) (h19 : H'.1 50 19 = H.1 50 19) : zBs H' b := by
  unfold zBs
  rw [(hs 62 hT).2.1, h19]
  exact h
theorem zRw_sm9 {H H' : zHp} {u : List Nat} {T : Nat → Prop} (h : zRw H u) (hs : zsm T H H') (h1 : ¬ T 54) (h2 : ¬ T 55) (h9 : H'.1 50 9 = H.1 50 9) : zRw H' u := by
  unfold zRw zRc
  rw [(hs 54 h1).2.1, (hs 55 h2).2.1, h9]
  exact h
/-- one try more -/
theorem zMq_L {H0 H H' : zHp} {S : zU} {ring two : Bool} {m t x : Nat} {v u u' b : List Nat} {cs : List (List Nat)} (h : zMq H0 H S ring two m t x v u b cs) (hs : zscL H H') (hu : zRw H' u') : zMq H0 H' S ring two m t x v u' b cs := by
  obtain ⟨⟨a1, a2, a3, a4⟩, b1, c1, d1⟩ := h
  exact ⟨⟨zsm_tr a1 (zscM_fM (zscL_M hs)), zscL_IM a2 hs, hu, by rw [hs.2 20 (by decide)]; exact a4⟩, zMn_sm b1 hs.1 (by omega), zBs_sm c1 hs.1 (by omega) (hs.2 19 (by decide)), fun e => zCl_sm (d1 e) hs.1 (by omega) (hs.2 22 (by decide))⟩
theorem zMq_t {H0 H : zHp} {S : zU} {ring two : Bool} {m t x : Nat} {v u b : List Nat} {cs : List (List Nat)} (h : zMq H0 H S ring two m t x v u b cs) (t' : Nat) : zMq H0 (zsF H 50 15 (.int (nI t'))) S ring two m t' x v u b cs := by
  obtain ⟨⟨a1, a2, a3, a4⟩, b1, c1, d1⟩ := h
  have hs : zsm (fun a => a = 50) H (zsF H 50 15 (.int (nI t'))) := zsm_F zsm_rf rfl
  have hj : ∀ j, j ≠ 15 → (zsF H 50 15 (.int (nI t'))).1 50 j = H.1 50 j := fun j hj => h_FF _ _ _ _ _ _ (by omega)
  exact ⟨⟨zsm_F a1 (by omega), (show zIM _ (zUt (zUn S t) (nI t') (zUn S t).2.2.2.1.2) from zIM_tr (nI t') a2), zRw_sm9 a3 hs (by omega) (by omega) (hj 9 (by decide)), by rw [hj 20 (by decide)]; exact a4⟩, zMn_sm b1 hs (by omega), zBs_sm c1 hs (by omega) (hj 19 (by decide)), fun e => zCl_sm (d1 e) hs (by omega) (hj 22 (by decide))⟩
theorem zMq_K {H0 H H' : zHp} {S : zU} {ring two : Bool} {m t x : Nat} {v u b b' : List Nat} {cs : List (List Nat)} (h : zMq H0 H S ring two m t x v u b cs) (hs : zscK H H') (hb : zBs H' b') : zMq H0 H' S ring two m t x v u b' cs := by
  obtain ⟨⟨a1, a2, a3, a4⟩, b1, c1, d1⟩ := h
  exact ⟨⟨zsm_tr a1 (zscM_fM (zscK_M hs)), zscM_IM a2 (zscK_M hs), zRw_sm9 a3 hs.1 (by omega) (by omega) (hs.2 9 (by decide)), by rw [hs.2 20 (by decide)]; exact a4⟩, zMn_sm b1 hs.1 (by omega), hb, fun e => zCl_sm (d1 e) hs.1 (by omega) (hs.2 22 (by decide))⟩
theorem zMq_C {H0 H H' : zHp} {S : zU} {ring two : Bool} {m t x : Nat} {v u b : List Nat} {cs cs' : List (List Nat)} (h : zMq H0 H S ring two m t x v u b cs) (hs : zscC H H') (hc : two = true → zCl H' m cs') : zMq H0 H' S ring two m t x v u b cs' := by
  obtain ⟨⟨a1, a2, a3, a4⟩, b1, c1, d1⟩ := h
  exact ⟨⟨zsm_tr a1 (zscM_fM (zscC_M hs)), zscM_IM a2 (zscC_M hs), zRw_sm9 a3 hs.1 (by omega) (by omega) (hs.2 9 (by decide)), by rw [hs.2 20 (by decide)]; exact a4⟩, zMn_sm b1 hs.1 (by omega), zBs_sm c1 hs.1 (by omega) (hs.2 19 (by decide)), hc⟩
/-- the next of the ways is another -/
theorem zMq_n {H0 H : zHp} {S : zU} {ring two : Bool} {m t x : Nat} {v u b : List Nat} {cs : List (List Nat)} (h : zMq H0 H S ring two m t x v u b cs) (x' : Nat) : zMq H0 (zsI H 61 v.length (nI x')) S ring two m t x' v u b cs := by
  obtain ⟨⟨a1, a2, a3, a4⟩, b1, c1, d1⟩ := h
  have hs : zsm (fun a => a = 61) H (zsI H 61 v.length (nI x')) := zsm_I zsm_rf rfl
  exact ⟨⟨zsm_I a1 (by omega), zscM_IM a2 (zscM_I zscM_rf (by decide)), zRw_sm9 a3 hs (by omega) (by omega) rfl, a4⟩, ⟨fun j hj => by rw [h_II _ _ _ _ _ _ (by omega)]; exact b1.1 j hj, h_Is _ _ _ _⟩, zBs_sm c1 hs (by omega) rfl, fun e => zCl_sm (d1 e) hs (by omega) rfl⟩
/-- on behind a step -/
theorem zMq_add {H0 H : zHp} {S : zU} {ring two : Bool} {m t x : Nat} {v b : List Nat} {cs : List (List Nat)} (h : zMq H0 H S ring two m t (x + 1) v (v ++ [x]) b cs) : zMq H0 (zsI H 61 (v.length + 1) (nI 0)) S ring two m t 0 (v ++ [x]) (v ++ [x]) b cs := by
  obtain ⟨⟨a1, a2, a3, a4⟩, b1, c1, d1⟩ := h
  have hs : zsm (fun a => a = 61) H (zsI H 61 (v.length + 1) (nI 0)) := zsm_I zsm_rf rfl
  have e : (v ++ [x]).length = v.length + 1 := by simp
  refine ⟨⟨zsm_I a1 (by omega), zscM_IM a2 (zscM_I zscM_rf (by decide)), zRw_sm9 a3 hs (by omega) (by omega) rfl, a4⟩, ⟨fun j hj => ?_, by rw [e]; exact h_Is _ _ _ _⟩, zBs_sm c1 hs (by omega) rfl, fun e => zCl_sm (d1 e) hs (by omega) rfl⟩
  rw [e] at hj
  rw [h_II _ _ _ _ _ _ (by omega)]
  by_cases e2 : j = v.length
  · subst e2
    rw [z_app_last]
    exact b1.2
  · rw [z_app_lt (by omega)]
    exact b1.1 j (by omega)
/-- a step is taken back -/
theorem zMq_pre {H0 H : zHp} {S : zU} {ring two : Bool} {m t x : Nat} {v u b : List Nat} {cs : List (List Nat)} (h : zMq H0 H S ring two m t x v (v ++ u) b cs) : zMq H0 (zsF H 50 9 (.int (nI v.length))) S ring two m t x v v b cs := zMq_L h (zscL_F zscL_rf rfl) (zRw_pre h.1.2.2.1)
theorem zMq_pre2 {H0 H : zHp} {S : zU} {ring two : Bool} {m t x z : Nat} {v b : List Nat} {cs : List (List Nat)} (h : zMq H0 H S ring two m t x (v ++ [z]) (v ++ [z]) b cs) : zMq H0 (zsF H 50 9 (.int (nI v.length))) S ring two m t (z + 1) v v b cs := by
  have h2 := zMq_L h (u' := v) (zscL_F (k := 9) (v := .int (nI v.length)) zscL_rf rfl) (zRw_pre h.1.2.2.1)
  obtain ⟨a1, b1, c1⟩ := h2
  have e : (v ++ [z]).length = v.length + 1 := by simp
  refine ⟨a1, ⟨fun j hj => ?_, ?_⟩, c1⟩
  · rw [b1.1 j (by omega), z_app_lt hj]
  · rw [b1.1 v.length (by omega), z_app_last]
