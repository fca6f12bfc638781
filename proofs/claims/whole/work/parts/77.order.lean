/-! the order of the tries: rows that are still to come -/
def zTC (v : List Nat) (x : Nat) (w : List Nat) : Prop := (∃ i, i < v.length ∧ i < w.length ∧ (∀ j, j < i → w.getD j 0 = v.getD j 0) ∧ v.getD i 0 < w.getD i 0) ∨ (v.length < w.length ∧ (∀ j, j < v.length → w.getD j 0 = v.getD j 0) ∧ x ≤ w.getD v.length 0)
theorem zTC_up {v w : List Nat} {x : Nat} (h : zTC v (x + 1) w) : zTC v x w := by
  rcases h with h | ⟨h1, h2, h3⟩
  · exact Or.inl h
  · exact Or.inr ⟨h1, h2, by omega⟩
theorem zTC_bk {v w : List Nat} {x z : Nat} (h : zTC v (z + 1) w) : zTC (v ++ [z]) x w := by
  have el : (v ++ [z]).length = v.length + 1 := by simp
  rcases h with ⟨i, h1, h2, h3, h4⟩ | ⟨h1, h2, h3⟩
  · refine Or.inl ⟨i, by omega, h2, fun j hj => by rw [z_app_lt (by omega)]; exact h3 j hj, by rw [z_app_lt h1]; exact h4⟩
  · refine Or.inl ⟨v.length, by omega, h1, fun j hj => by rw [z_app_lt hj]; exact h2 j hj, by rw [z_app_last]; omega⟩
theorem zTC_on {v w : List Nat} {x : Nat} (h : zTC (v ++ [x]) 0 w) : zTC v x w := by
  have el : (v ++ [x]).length = v.length + 1 := by simp
  rcases h with ⟨i, h1, h2, h3, h4⟩ | ⟨h1, h2, h3⟩
  · by_cases e : i < v.length
    · refine Or.inl ⟨i, e, h2, fun j hj => ?_, ?_⟩
      · have := h3 j hj
        rw [z_app_lt (by omega)] at this
        exact this
      · rw [z_app_lt e] at h4
        exact h4
    · have e : i = v.length := by omega
      subst e
      refine Or.inr ⟨h2, fun j hj => ?_, ?_⟩
      · have := h3 j hj
        rw [z_app_lt hj] at this
        exact this
      · rw [z_app_last] at h4
        omega
  · refine Or.inr ⟨by omega, fun j hj => ?_, ?_⟩
    · have := h2 j (by omega)
      rw [z_app_lt hj] at this
      exact this
    · have := h2 v.length (by omega)
      rw [z_app_last] at this
      omega
theorem zTC_hd {v w : List Nat} {x h : Nat} (hh : zTC (zhd v x h).1 (zhd v x h).2 w) : zTC v x w := by
  unfold zhd at hh
  split at hh
  · exact zTC_up hh
  · exact zTC_on hh
/-- what comes behind a row of all steps is greater -/
theorem zTC_lt {v w : List Nat} {x h m : Nat} (hm : v.length + 1 = m) (hw : w.length = m) (hh : zTC (zhd v x h).1 (zhd v x h).2 w) : zlt m (v ++ [x]) w := by
  have el : (v ++ [x]).length = v.length + 1 := by simp
  unfold zhd at hh
  split at hh
  · rcases hh with ⟨i, h1, h2, h3, h4⟩ | ⟨h1, h2, h3⟩
    · have h1 : i < v.length := h1
      refine ⟨i, by omega, fun j hj => ?_, ?_⟩
      · rw [z_app_lt (by omega)]
        exact (h3 j hj).symm
      · rw [z_app_lt h1]
        exact h4
    · refine ⟨v.length, by omega, fun j hj => ?_, ?_⟩
      · rw [z_app_lt hj]
        exact (h2 j hj).symm
      · rw [z_app_last]
        exact h3
  · rcases hh with ⟨i, h1, h2, h3, h4⟩ | ⟨h1, h2, h3⟩
    · have h1 : i < (v ++ [x]).length := h1
      exact ⟨i, by omega, fun j hj => (h3 j hj).symm, h4⟩
    · have h1 : (v ++ [x]).length < w.length := h1
      omega
theorem z_take_eq {v f : List Nat} (hl : v.length ≤ f.length) (h : ∀ j, j < v.length → f.getD j 0 = v.getD j 0) : f.take v.length = v := by
  refine zl_ext (z_take_len hl) (fun j hj => ?_)
  rw [z_take_len hl] at hj
  rw [← h j hj]
  simp only [List.getD_eq_getElem?_getD]
  rw [List.getElem?_take_of_lt hj]
/-- a row to come is the one that is tried now, or comes behind it -/
theorem zTC_step {D m x : Nat} {hw : List Nat → Nat → Nat} {v f : List Nat} (hf : zpv D m hw f) (hv : v.length < m) (h : zTC v x f) : (hw v x = 0 → zTC v (x + 1) f) ∧ (hw v x ≠ 0 → f = v ++ [x] ∨ zTC (zhd v x (hw v x)).1 (zhd v x (hw v x)).2 f) := by
  obtain ⟨hm, hf⟩ := hf
  have el : (v ++ [x]).length = v.length + 1 := by simp
  rcases h with ⟨i, h1, h2, h3, h4⟩ | ⟨h1, h2, h3⟩
  · refine ⟨fun _ => Or.inl ⟨i, h1, h2, h3, h4⟩, fun _ => Or.inr ?_⟩
    unfold zhd
    split
    · exact Or.inl ⟨i, h1, h2, h3, h4⟩
    · exact Or.inl ⟨i, by show i < (v ++ [x]).length; omega, h2, fun j hj => by rw [z_app_lt (by omega)]; exact h3 j hj, by rw [z_app_lt h1]; exact h4⟩
  · have ht := z_take_eq (by omega) h2
    obtain ⟨g1, g2, g3⟩ := hf v.length h1
    rw [ht] at g2 g3
    by_cases e : f.getD v.length 0 = x
    · rw [e] at g2 g3
      refine ⟨fun q => absurd q g2, fun _ => ?_⟩
      have hag : ∀ j, j < v.length + 1 → f.getD j 0 = (v ++ [x]).getD j 0 := fun j hj => by
        by_cases e2 : j = v.length
        · subst e2
          rw [z_app_last, e]
        · rw [z_app_lt (by omega)]
          exact h2 j (by omega)
      by_cases hl : v.length + 1 < f.length
      · right
        unfold zhd
        rw [if_neg (by rw [g3 hl]; decide)]
        exact Or.inr ⟨by show (v ++ [x]).length < f.length; omega, fun j hj => hag j (by rw [el] at hj; exact hj), Nat.zero_le _⟩
      · left
        exact zl_ext (by omega) (fun j hj => hag j (by omega))
    · refine ⟨fun _ => Or.inr ⟨h1, h2, by omega⟩, fun _ => Or.inr ?_⟩
      unfold zhd
      split
      · exact Or.inr ⟨h1, h2, by show x + 1 ≤ f.getD v.length 0; omega⟩
      · refine Or.inl ⟨v.length, by show v.length < (v ++ [x]).length; omega, h1, fun j hj => by rw [z_app_lt hj]; exact h2 j hj, ?_⟩
        rw [z_app_last]
        omega
theorem zTC_back {D m x z : Nat} {hw : List Nat → Nat → Nat} {v f : List Nat} (hf : zpv D m hw f) (hb : D ≤ x ∨ m ≤ v.length + 1) (h : zTC (v ++ [z]) x f) : zTC v (z + 1) f := by
  obtain ⟨hm, hf⟩ := hf
  have el : (v ++ [z]).length = v.length + 1 := by simp
  rcases h with ⟨i, h1, h2, h3, h4⟩ | ⟨h1, h2, h3⟩
  · by_cases e : i < v.length
    · refine Or.inl ⟨i, e, h2, fun j hj => ?_, ?_⟩
      · have := h3 j hj
        rw [z_app_lt (by omega)] at this
        exact this
      · rw [z_app_lt e] at h4
        exact h4
    · have e : i = v.length := by omega
      subst e
      refine Or.inr ⟨h2, fun j hj => ?_, ?_⟩
      · have := h3 j hj
        rw [z_app_lt hj] at this
        exact this
      · rw [z_app_last] at h4
        omega
  · have := (hf (v ++ [z]).length h1).1
    omega
/-! what is known of the classes between the tries -/
def zJ (D k m : Nat) (ring : Bool) (v : List Nat) (x : Nat) (cs : List (List Nat)) : Prop :=
  zgod D k (lN 0) ring v ∧ (∀ c ∈ cs, ∀ w, w.length = m → zTC v x w → zlt m c w) ∧ (∀ f, zvd D k ring f → zcan f → f.length = m → zLF ring f = f → f ∈ cs ∨ zTC v x f) ∧ cs.Pairwise (zlt m)
theorem zlt_irr {m : Nat} {a b : List Nat} (h : zlt m a b) (h2 : zlt m b a) : False := by
  obtain ⟨i, hi, e1, l1⟩ := h
  obtain ⟨j, hj, e2, l2⟩ := h2
  rcases Nat.lt_trichotomy i j with q | q | q
  · have := e2 i q
    omega
  · subst q
    omega
  · have := e1 j q
    omega
theorem zJ_ok {D k m : Nat} {ring : Bool} (hD : D ≤ 6) (hk : 1 ≤ k) : zJok D m (zhw D k (lN 0) ring) ring (zLF ring) (zJ D k m ring) := by
  have pv : ∀ f, zvd D k ring f → zcan f → f.length = m → zpv D m (zhw D k (lN 0) ring) f := fun f h1 h2 h3 => (zvd_pv hk h1 h2 h3).1
  have pz : ∀ {v : List Nat} {x : Nat}, zgod D k (lN 0) ring v → x < D → zhw D k (lN 0) ring v x ≠ 0 → zgod D k (lN 0) ring (zhd v x (zhw D k (lN 0) ring v x)).1 := by
    intro v x hg hx hne
    unfold zhd
    split
    · exact hg
    · next h2 =>
      have := zhw_le D k (lN 0) ring v x
      exact zgod_app hg hx (by omega)
  refine ⟨fun v x cs h h0 hx hl => ?_, fun v z x cs h hb hl => ?_, fun v x cs h hx hl hne hcn => ?_, fun v x cs h hx hl hne hmt => ?_⟩
  · obtain ⟨a, b, c, d⟩ := h
    refine ⟨a, fun q hq w hw ht => b q hq w hw (zTC_up ht), fun f f1 f2 f3 f4 => ?_, d⟩
    rcases c f f1 f2 f3 f4 with q | q
    · exact Or.inl q
    · exact Or.inr ((zTC_step (pv f f1 f2 f3) hl q).1 h0)
  · obtain ⟨a, b, c, d⟩ := h
    refine ⟨zgod_pre a, fun q hq w hw ht => b q hq w hw (zTC_bk ht), fun f f1 f2 f3 f4 => ?_, d⟩
    rcases c f f1 f2 f3 f4 with q | q
    · exact Or.inl q
    · exact Or.inr (zTC_back (pv f f1 f2 f3) hb q)
  · obtain ⟨a, b, c, d⟩ := h
    refine ⟨pz a hx hne, fun q hq w hw ht => b q hq w hw (zTC_hd ht), fun f f1 f2 f3 f4 => ?_, d⟩
    rcases c f f1 f2 f3 f4 with q | q
    · exact Or.inl q
    · rcases (zTC_step (pv f f1 f2 f3) hl q).2 hne with e | e
      · exfalso
        have el : (v ++ [x]).length = v.length + 1 := by simp
        have e3 : v.length + 1 = m := by rw [← f3, e, el]
        refine hcn ⟨?_, e3⟩
        unfold zmet
        cases hring : ring
        · rfl
        · have h2 := (zvd_pv hk f1 f2 f3).2 hring v.length (by rw [e, el])
          have e5 : f.take v.length = v := by rw [e, List.take_left]
          rw [e5, e, z_app_last, hring] at h2
          rw [h2]
          rfl
      · exact Or.inr e
  · obtain ⟨a, b, c, d⟩ := h
    obtain ⟨s1, s2⟩ := zmet_vd hD a hx hne hmt
    have el : (v ++ [x]).length = m := by simp; omega
    have tc0 : zTC v x (v ++ [x]) := Or.inr ⟨by omega, fun j hj => z_app_lt hj, by rw [z_app_last]; exact Nat.le_refl _⟩
    have all : ∀ q ∈ cs, zlt m q (v ++ [x]) := fun q hq => b q hq _ el tc0
    by_cases hs : zLF ring (v ++ [x]) = v ++ [x]
    · refine Or.inl ⟨hs, all, pz a hx hne, fun q hq w hw ht => ?_, fun f f1 f2 f3 f4 => ?_, ?_⟩
      · rcases List.mem_append.mp hq with hq | hq
        · exact b q hq w hw (zTC_hd ht)
        · rw [List.mem_singleton.mp hq]
          exact zTC_lt hl hw ht
      · rcases c f f1 f2 f3 f4 with q | q
        · exact Or.inl (List.mem_append.mpr (Or.inl q))
        · rcases (zTC_step (pv f f1 f2 f3) (by omega) q).2 hne with e | e
          · exact Or.inl (List.mem_append.mpr (Or.inr (List.mem_singleton.mpr e)))
          · exact Or.inr e
      · rw [List.pairwise_append]
        exact ⟨d, List.pairwise_singleton _ _, fun q hq r hr => by rw [List.mem_singleton.mp hr]; exact all q hq⟩
    · refine Or.inr ⟨hs, ?_, pz a hx hne, fun q hq w hw ht => b q hq w hw (zTC_hd ht), fun f f1 f2 f3 f4 => ?_, d⟩
      · have hlt : zlt m (zLF ring (v ++ [x])) (v ++ [x]) := by
          rcases zLF_le (ring := ring) s1.1 s2 with q | q
          · exact absurd q hs
          · rw [el] at q
            exact q
        have hin : zLF ring (v ++ [x]) ∈ cs := by
          have f1 := zLF_vd hk s1
          have f3 : (zLF ring (v ++ [x])).length = m := by rw [zLF_len, el]
          rcases c _ f1 (zLF_can ring _) f3 (zLF_idem s1.1) with q | q
          · exact q
          · exfalso
            rcases (zTC_step (pv _ f1 (zLF_can ring _) f3) (by omega) q).2 hne with e | e
            · exact hs e
            · exact zlt_irr hlt (zTC_lt hl f3 e)
        obtain ⟨pre, post, e⟩ := List.append_of_mem hin
        refine ⟨pre, post, e, fun q hq => ?_⟩
        rw [e, List.pairwise_append] at d
        exact d.2.2 q hq _ List.mem_cons_self
      · rcases c f f1 f2 f3 f4 with q | q
        · exact Or.inl q
        · rcases (zTC_step (pv f f1 f2 f3) (by omega) q).2 hne with e | e
          · rw [e] at f4
            exact absurd f4 hs
          · exact Or.inr e
theorem zJ_0 {D k m : Nat} {ring : Bool} {a' : zAc} (hk : 1 ≤ k) (h : zupd (zLF ring) ring m true ([], 0, []) ([], 1) = some a') : zJ D k m ring [] 0 a'.2.2 := by
  have hg : zgod D k (lN 0) ring [] := zgod_nil (zbit_0 0)
  have emp : ∀ f : List Nat, f.length = m → 0 < m → zTC [] 0 f := fun f hf hm => Or.inr ⟨by simp; omega, fun j hj => absurd hj (by simp), Nat.zero_le _⟩
  by_cases hm : m = 0
  · subst hm
    cases ring
    · rw [zupd_yes rfl] at h
      dsimp only at h
      rw [if_pos (zLF_nil false)] at h
      cases h
      refine ⟨hg, fun c hc w hw ht => ?_, fun f f1 f2 f3 f4 => Or.inl ?_, List.pairwise_singleton _ _⟩
      · rcases ht with ⟨i, h1, -⟩ | ⟨h1, -⟩
        · exact absurd h1 (by simp)
        · rw [hw] at h1
          exact absurd h1 (by simp)
      · rw [List.eq_nil_of_length_eq_zero f3]
        exact List.mem_cons_self
    · have e : zupd (zLF true) true 0 true ([], 0, []) ([], 1) = some ([], 0, []) := if_pos ⟨rfl, (by decide : (1 : Nat) ≠ 2)⟩
      rw [e] at h
      cases h
      refine ⟨hg, fun c hc => absurd hc List.not_mem_nil, fun f f1 f2 f3 f4 => ?_, List.Pairwise.nil⟩
      exfalso
      have := (zrg_ok (f1.2.2.1 rfl)).1
      unfold zsr at this
      split at this <;> omega
  · have e : a'.2.2 = [] := by
      rw [zupd_no (by
        rw [Bool.and_eq_false_iff, decide_eq_false_iff_not]
        exact Or.inr (fun q => hm q.symm))] at h
      cases h
      exact zup1_3
    rw [e]
    exact ⟨hg, fun c hc => absurd hc List.not_mem_nil, fun f f1 f2 f3 f4 => Or.inr (emp f f3 (by omega)), List.Pairwise.nil⟩
