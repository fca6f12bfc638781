/-! what both sides say of a call: one answer, one new state -/
theorem zIX_rf {H : zHp} {S : zU} (h : zIX H S) : zRf H := h.1
theorem zIM_rf {H : zHp} {S : zU} (h : zIM H S) : zRf H := h.1
/-- a finding is told -/
def zfd (S : zU) (w : Nat) : zU := (S.1, S.2.1, (zup S.2.2.1.1 w (S.2.2.1.1 w + nI 1), nI w), S.2.2.2)
theorem zup_s {α : Type} (R : Nat → α) (p : Nat) (v : α) : zup R p v p = v := if_pos rfl
theorem zup_n {α : Type} (R : Nat → α) (p : Nat) (v : α) {q : Nat} (h : q ≠ p) : zup R p v q = R q := if_neg h
theorem zIf_same {H H' : zHp} {r cs : Nat} {cl : List (List Nat)} (h : zIf H r cs cl) (h1 : H'.1 r = H.1 r) (h2 : H'.2.1 (r + 1) = H.2.1 (r + 1)) : zIf H' r cs cl :=
  ⟨by rw [h1]; exact h.1, by rw [h1]; exact h.2.1, fun i s hi hs => by rw [h2]; exact h.2.2 i s hi hs⟩
/-- a world in which only scratch cells, a rope or the numbers are others: what is to be shown anew -/
theorem zIX_of {H H' : zHp} {S S' : zU} {T : Nat → Prop} (h : zIX H S) (hs : zsm T H H') (hR : zRf H') (hG : ¬ T 1 ∧ S'.1 = S.1 ∨ (H'.1 1 0 = .int (nI S'.1.1) ∧ H'.1 1 1 = .int (nI S'.1.2.1) ∧ H'.1 1 2 = .long S'.1.2.2)) (hB : ¬ T 2)
    (hP : ∀ p, p < 12 → (¬ T (zrp p) ∧ ¬ T (zrs p) ∧ S'.2.1 p = S.2.1 p) ∨ zIr H' (zrp p) (S'.2.1 p))
    (hF : ¬ T 25 ∧ S'.2.2.1.1 = S.2.2.1.1 ∨ ∀ f, f < 5 → H'.2.1 25 f = S'.2.2.1.1 f) (hN : ¬ T 0 ∧ S'.2.2.1.2 = S.2.2.1.2 ∧ S'.2.2.2.1 = S.2.2.2.1 ∨ (H'.1 0 13 = .int S'.2.2.1.2 ∧ (H'.1 0 10 = .int S'.2.2.2.1.1 ∧ H'.1 0 11 = .long S'.2.2.2.1.2) ∧ H'.1 0 8 = H.1 0 8 ∧ H'.1 0 9 = H.1 0 9))
    (hK : (∀ a : Nat, a = 21 ∨ a = 22 ∨ a = 23 ∨ a = 24 → H.1 0 8 = .ref a ∨ (∃ b : Nat, H.1 0 8 = .ref b ∧ a = b + 1) → ¬ T a) ∧ S'.2.2.2.2 = S.2.2.2.2) : zIX H' S' := by
  obtain ⟨g1, g2, g3, g4, ⟨g5, g6⟩, g7, kn, ga, hkg, k1, k2, k3⟩ := h
  obtain ⟨⟨D, k, B⟩, R, ⟨fc, lf⟩, ⟨tr, ak⟩, C⟩ := S
  obtain ⟨⟨D', k', B'⟩, R', ⟨fc', lf'⟩, ⟨tr', ak'⟩, C'⟩ := S'
  dsimp only at *
  have e8 : H'.1 0 8 = H.1 0 8 ∧ H'.1 0 9 = H.1 0 9 := by
    rcases hN with ⟨hn, -, -⟩ | ⟨-, -, hn⟩
    · exact ⟨by rw [(hs 0 hn).1], by rw [(hs 0 hn).1]⟩
    · exact hn
  refine ⟨hR, ?_, fun r c hr hc d hd => ?_, fun p hp => ?_, ⟨?_, ?_⟩, ?_, kn, ga, hkg, by rw [e8.1]; exact k1, by rw [e8.2]; exact k2, ?_⟩
  · rcases hG with ⟨hn, e⟩ | hG
    · rw [(hs 1 hn).1, e]; exact g2
    · exact hG
  · rw [(hs 2 hB).2.2]; exact g3 r c hr hc d hd
  · rcases hP p hp with ⟨h1, h2, h3⟩ | h1
    · show zIr H' (zrp p) (R' p)
      rw [h3]
      have e9 : zrs p = zrp p + 1 := (zrp_lt hp).2.2
      exact zIr_same (g4 p hp) (hs _ h1).1 (by rw [← e9]; exact (hs _ h2).2.1)
    · exact h1
  · rcases hF with ⟨hn, e⟩ | hF
    · intro f hf; rw [(hs 25 hn).2.1, e]; exact g5 f hf
    · exact hF
  · rcases hN with ⟨hn, e, -⟩ | ⟨hn, -⟩
    · rw [(hs 0 hn).1, e]; exact g6
    · exact hn
  · rcases hN with ⟨hn, -, e⟩ | ⟨-, hn, -⟩
    · rw [(hs 0 hn).1]
      simp only [Prod.mk.injEq] at e
      rw [e.1, e.2]; exact g7
    · exact hn
  · rw [hK.2]
    have h5 := hK.1 kn (by omega) (Or.inl k1)
    have h6 := hK.1 (kn + 1) (by omega) (Or.inr ⟨kn, k1, rfl⟩)
    exact zIf_same k3 (hs _ h5).1 (hs _ h6).2.1
theorem zIM_of {H H' : zHp} {S S' : zU} {T : Nat → Prop} (h : zIM H S) (hs : zsm T H H') (hR : zRf H') (hG : ¬ T 50 ∧ S'.1 = S.1 ∧ S'.2.2.1.2 = S.2.2.1.2 ∧ S'.2.2.2 = S.2.2.2 ∨ ((H'.1 50 2 = .int (nI S'.1.1) ∧ H'.1 50 3 = .int (nI S'.1.2.1) ∧ H'.1 50 4 = .long S'.1.2.2) ∧ H'.1 50 0 = .int S'.2.2.1.2 ∧ (H'.1 50 15 = .int S'.2.2.2.1.1 ∧ H'.1 50 16 = .long S'.2.2.2.1.2) ∧ H'.1 50 24 = .int (nI S'.2.2.2.2.2.length) ∧ H'.1 50 25 = .int (nI S'.2.2.2.2.1)))
    (hP : ∀ p, p < 12 → (¬ T 52 ∧ ¬ T 53 ∧ S'.2.1 p = S.2.1 p) ∨ zIm H' p (S'.2.1 p)) (hF : ¬ T 51 ∧ S'.2.2.1.1 = S.2.2.1.1 ∨ ∀ f, f < 5 → H'.2.1 51 f = S'.2.2.1.1 f)
    (hK : ¬ T 64 ∧ S'.2.2.2.2 = S.2.2.2.2 ∨ ∀ i s, i < S'.2.2.2.2.2.length → s < S'.2.2.2.2.1 → H'.2.1 64 (64 * i + s) = nI ((S'.2.2.2.2.2.getD i []).getD s 0)) : zIM H' S' := by
  obtain ⟨g1, g2, g4, ⟨g5, g6⟩, g7, k1, k2, k3⟩ := h
  obtain ⟨⟨D, k, B⟩, R, ⟨fc, lf⟩, ⟨tr, ak⟩, C⟩ := S
  obtain ⟨⟨D', k', B'⟩, R', ⟨fc', lf'⟩, ⟨tr', ak'⟩, C'⟩ := S'
  dsimp only at *
  have hK2 : ∀ i s, i < C'.2.length → s < C'.1 → H'.2.1 64 (64 * i + s) = nI ((C'.2.getD i []).getD s 0) := by
    rcases hK with ⟨hn, e⟩ | hK
    · rw [e]; intro i s hi hs2; rw [(hs 64 hn).2.1]; exact k3 i s hi hs2
    · exact hK
  have hP2 : ∀ p, p < 12 → zIm H' p (R' p) := by
    intro p hp
    rcases hP p hp with ⟨h1, h2, h3⟩ | h1
    · rw [h3]
      have := g4 p hp
      cases ho : R p with
      | none => rw [ho] at this; exact (congrFun (hs 52 h1).2.1 p).trans this
      | some w => rw [ho] at this; exact ⟨(congrFun (hs 52 h1).2.1 p).trans this.1, fun j hj => (congrFun (hs 53 h2).2.1 _).trans (this.2 j hj)⟩
    · exact h1
  have hF2 : ∀ f, f < 5 → H'.2.1 51 f = fc' f := by
    rcases hF with ⟨hn, e⟩ | hF
    · intro f hf; rw [(hs 51 hn).2.1, e]; exact g5 f hf
    · exact hF
  rcases hG with ⟨hn, e1, e2, e3⟩ | ⟨a1, a2, a3, a4, a5⟩
  · simp only [Prod.mk.injEq] at e1 e3
    obtain ⟨rfl, rfl, rfl⟩ := e1
    obtain ⟨⟨rfl, rfl⟩, rfl⟩ := e3
    subst e2
    have e9 := (hs 50 hn).1
    exact ⟨hR, by rw [e9]; exact g2, hP2, ⟨hF2, by rw [e9]; exact g6⟩, by rw [e9]; exact g7, by rw [e9]; exact k1, by rw [e9]; exact k2, hK2⟩
  · exact ⟨hR, a1, hP2, ⟨hF2, a2⟩, a3, a4, a5, hK2⟩
theorem zIX_find {H : zHp} {S : zU} {w : Nat} (h : zIX H S) (hw : w < 5) : zIX (zsF (zsI H 25 w (H.2.1 25 w + nI 1)) 0 13 (.int (nI w))) (zfd S w) := by
  have hf := h.2.2.2.2.1.1
  have ht := h.2.2.2.2.2.1
  refine zIX_of (T := fun a => a = 0 ∨ a = 25) h (zsm_F (zsm_I zsm_rf (Or.inr rfl)) (Or.inl rfl)) (zRf_sF (zRf_sI h.1) (by decide)) (Or.inl ⟨by decide, rfl⟩) (by decide) (fun p hp => Or.inl ⟨by have := zrp_lt hp; omega, by have := zrp_lt hp; omega, rfl⟩) (Or.inr fun f hf2 => ?_) (Or.inr ⟨h_Fs _ _ _ _, ⟨?_, ?_⟩, ?_, ?_⟩) ⟨fun a ha _ hT => by rcases hT with hT | hT <;> omega, rfl⟩
  · by_cases e : f = w
    · subst e
      simp only [h_FI, h_Is, zfd, zup_s, hf f hf2]
    · simp only [h_FI, zfd, zup_n _ _ _ e]
      rw [h_II _ _ _ _ _ _ (by omega)]
      exact hf f hf2
  · simp (disch := omega) only [h_FF, h_IF]; exact ht.1
  · simp (disch := omega) only [h_FF, h_IF]; exact ht.2
  · simp (disch := omega) only [h_FF, h_IF]
  · simp (disch := omega) only [h_FF, h_IF]
theorem zIM_find {H : zHp} {S : zU} {w : Nat} (h : zIM H S) (hw : w < 5) : zIM (zsI (zsF H 50 0 (.int (nI w))) 51 w (H.2.1 51 w + nI 1)) (zfd S w) := by
  obtain ⟨g1, g2, g4, ⟨g5, g6⟩, g7, k1, k2, k3⟩ := id h
  refine zIM_of (T := fun a => a = 50 ∨ a = 51) h (zsm_I (zsm_F zsm_rf (Or.inl rfl)) (Or.inr rfl)) (zRf_sI (zRf_sF h.1 (by decide))) (Or.inr ⟨⟨?_, ?_, ?_⟩, ?_, ⟨?_, ?_⟩, ?_, ?_⟩) (fun p hp => Or.inl ⟨by decide, by decide, rfl⟩) (Or.inr fun f hf2 => ?_) (Or.inl ⟨by decide, rfl⟩)
  · simp (disch := omega) only [h_FF, h_IF]; exact g2.1
  · simp (disch := omega) only [h_FF, h_IF]; exact g2.2.1
  · simp (disch := omega) only [h_FF, h_IF]; exact g2.2.2
  · rw [h_IF]; exact h_Fs _ _ _ _
  · simp (disch := omega) only [h_FF, h_IF]; exact g7.1
  · simp (disch := omega) only [h_FF, h_IF]; exact g7.2
  · simp (disch := omega) only [h_FF, h_IF]; exact k1
  · simp (disch := omega) only [h_FF, h_IF]; exact k2
  · by_cases e : f = w
    · subst e
      simp only [h_Is, zfd, zup_s, g5 f hf2]
    · simp only [zfd, zup_n _ _ _ e]
      rw [h_II _ _ _ _ _ _ (by omega)]
      exact g5 f hf2
/-- which calls answer longs -/
def zlo (y : Nat) : Bool := y == 78 || y == 99 || y == 103
def zrV (y : Nat) : Value → Prop
  | .int _ => zlo y = false
  | .long _ => zlo y = true
  | _ => False
def zB2 (yx ym : Nat) (args : List Value) (S : zU) : Prop := ∃ (r : Value) (S' : zU), zUok S' ∧ (∀ (X : zX) (H : zHp) (Q : Option Value → zHp → Prop), zIX H S → (∀ H', zfX H H' → zIX H' S' → Q (some r) H') → zCall X yx 65 (.ref 0 :: args) H Q) ∧
  (∀ (X : zX) (H : zHp) (Q : Option Value → zHp → Prop), zIM H S → (∀ H', zfM H H' → zIM H' S' → Q (some r) H') → zCall X ym 65 (.ref 50 :: args) H Q) ∧ zrV yx r
theorem zIX_rope {H H' : zHp} {S : zU} {p : Nat} {o : Option (List Nat)} (h : zIX H S) (hp : p < 12) (hs : zsm (fun a => a = zrp p ∨ a = zrs p) H H') (hR : zRf H') (ho : zIr H' (zrp p) o) : zIX H' (S.1, zup S.2.1 p o, S.2.2) := by
  have hl := zrp_lt hp
  refine zIX_of (T := fun a => a = zrp p ∨ a = zrs p) h hs hR (Or.inl ⟨by omega, rfl⟩) (by omega) (fun q hq => ?_) (Or.inl ⟨by omega, rfl⟩) (Or.inl ⟨by omega, rfl, rfl⟩) ⟨fun a ha _ hT => by rcases hT with hT | hT <;> omega, rfl⟩
  by_cases e : q = p
  · subst e
    right
    show zIr H' (zrp q) (zup S.2.1 q o q)
    rw [zup_s]; exact ho
  · left
    refine ⟨?_, ?_, zup_n _ _ _ e⟩
    · unfold zrp zrs; omega
    · unfold zrp zrs; omega
theorem zIM_rope {H H' : zHp} {S : zU} {p : Nat} {o : Option (List Nat)} (h : zIM H S) (hS : zUok S) (hs : zsm (fun a => a = 52 ∨ a = 53) H H') (hR : zRf H') (h52 : ∀ q, q < 12 → q ≠ p → H'.2.1 52 q = H.2.1 52 q) (h53 : ∀ q, q < 12 → q ≠ p → ∀ j, j < 64 → H'.2.1 53 (64 * q + j) = H.2.1 53 (64 * q + j)) (ho : p < 12 → zIm H' p o) : zIM H' (S.1, zup S.2.1 p o, S.2.2) := by
  refine zIM_of (T := fun a => a = 52 ∨ a = 53) h hs hR (Or.inl ⟨by omega, rfl, rfl, rfl⟩) (fun q hq => ?_) (Or.inl ⟨by omega, rfl⟩) (Or.inl ⟨by omega, rfl⟩)
  right
  show zIm H' q (zup S.2.1 p o q)
  by_cases e : q = p
  · subst e
    rw [zup_s]; exact ho hq
  · rw [zup_n _ _ _ e]
    have h1 := h.2.2.1 q hq
    cases hr : S.2.1 q with
    | none => rw [hr] at h1; exact (h52 q hq e).trans h1
    | some w =>
      rw [hr] at h1
      have h2 := (hS.2.1 q w hr).1
      exact ⟨(h52 q hq e).trans h1.1, fun j hj => (h53 q hq e j (by omega)).trans (h1.2 j hj)⟩
theorem zUok_rope {S : zU} {p : Nat} {o : Option (List Nat)} (h : zUok S) (ho : ∀ w, o = some w → zrow w) : zUok (S.1, zup S.2.1 p o, S.2.2) := by
  refine ⟨h.1, fun q w hq => ?_, h.2.2⟩
  have hq : zup S.2.1 p o q = some w := hq
  by_cases e : q = p
  · subst e
    rw [zup_s] at hq
    exact ho w hq
  · rw [zup_n _ _ _ e] at hq
    exact h.2.1 q w hq
/-- two sides that answer alike and leave the state -/
theorem zB2_of {yx ym : Nat} {args : List Value} {S : zU} (hS : zUok S) (r : Value) (hx : ∀ (X : zX) (H : zHp) (Q : Option Value → zHp → Prop), zIX H S → zRf H → (∀ H', zfX H H' → zIX H' S → Q (some r) H') → zCall X yx 65 (.ref 0 :: args) H Q)
    (hm : ∀ (X : zX) (H : zHp) (Q : Option Value → zHp → Prop), zIM H S → zRf H → (∀ H', zfM H H' → zIM H' S → Q (some r) H') → zCall X ym 65 (.ref 50 :: args) H Q) (ht : zrV yx r := by exact rfl) : zB2 yx ym args S :=
  ⟨r, S, hS, fun X H Q h => hx X H Q h h.1, fun X H Q h => hm X H Q h h.1, ht⟩
/-- .. and tell a finding -/
theorem zB2_fd {yx ym : Nat} {args : List Value} {S : zU} (hS : zUok S) (w : Nat) (hw : w < 5) (hx : ∀ (X : zX) (H : zHp) (Q : Option Value → zHp → Prop), zIX H S → zRf H → Q (some (.int (-nI 3))) (zsF (zsI H 25 w (H.2.1 25 w + nI 1)) 0 13 (.int (nI w))) → zCall X yx 65 (.ref 0 :: args) H Q)
    (hm : ∀ (X : zX) (H : zHp) (Q : Option Value → zHp → Prop), zIM H S → zRf H → Q (some (.int (-nI 3))) (zsI (zsF H 50 0 (.int (nI w))) 51 w (H.2.1 51 w + nI 1)) → zCall X ym 65 (.ref 50 :: args) H Q) (ht : zlo yx = false := by exact rfl) : zB2 yx ym args S :=
  ⟨.int (-nI 3), zfd S w, hS, fun X H Q h hQ => hx X H Q h h.1 (hQ _ (zsm_F (zsm_I zsm_rf (by decide)) (by decide)) (zIX_find h hw)), fun X H Q h hQ => hm X H Q h h.1 (hQ _ (zsm_I (zsm_F zsm_rf (by decide)) (by decide)) (zIM_find h hw)), ht⟩
theorem zIr_none {H : zHp} {S : zU} {p : Nat} (h : zIX H S) (hp : p < 12) (hr : S.2.1 p = none) : H.1 (zrp p) 0 = .int (nI 0) ∧ H.1 (zrp p) 1 = .int (nI 0) := by
  have := h.2.2.2.1 p hp
  rw [hr] at this
  exact this
theorem zIr_some {H : zHp} {S : zU} {p : Nat} {w : List Nat} (h : zIX H S) (hp : p < 12) (hr : S.2.1 p = some w) : H.1 (zrp p) 0 = .int (nI 1) ∧ H.1 (zrp p) 1 = .int (nI w.length) ∧ ∀ j, j < w.length → H.2.1 (zrs p) j = nI (w.getD j 0) := by
  have := h.2.2.2.1 p hp
  rw [hr] at this
  rw [(zrp_lt hp).2.2]
  exact this
theorem zIm_none {H : zHp} {S : zU} {p : Nat} (h : zIM H S) (hp : p < 12) (hr : S.2.1 p = none) : H.2.1 52 p = -nI 9 := by
  have := h.2.2.1 p hp
  rw [hr] at this
  exact this
theorem zIm_some {H : zHp} {S : zU} {p : Nat} {w : List Nat} (h : zIM H S) (hp : p < 12) (hr : S.2.1 p = some w) : H.2.1 52 p = nI w.length ∧ ∀ j, j < w.length → H.2.1 53 (64 * p + j) = nI (w.getD j 0) := by
  have := h.2.2.1 p hp
  rw [hr] at this
  exact this
theorem z_take {w : List Nat} {i j : Nat} (h : j < min i w.length) : (w.take i).getD j 0 = w.getD j 0 := by
  simp only [List.getD_eq_getElem?_getD]
  rw [List.getElem?_take_of_lt (by omega)]
theorem z_app_last {w : List Nat} {i : Nat} : (w ++ [i]).getD w.length 0 = i := by
  simp [List.getD_eq_getElem?_getD]
theorem z_app_lt {w v : List Nat} {j : Nat} (h : j < w.length) : (w ++ v).getD j 0 = w.getD j 0 := by
  simp only [List.getD_eq_getElem?_getD]
  rw [List.getElem?_append_left h]
theorem z_at {w : List Nat} {i : Nat} (h : ¬ i < w.length) (hi : i < 2 ^ 31) (hw : w.length ≤ 64) : (nI i ≤ nI w.length - nI 1) = False := by
  rcases Nat.eq_zero_or_pos w.length with e | e
  · rw [e]
    refine eq_false (Int32.not_le.mpr ?_)
    have : nI 0 - nI 1 = -nI 1 := by decide
    rw [this]
    exact of_eq_true (ng_ltT (by omega) hi (by decide))
  · rw [nI_sub (by omega)]
    exact nI_leF (by omega) hi
theorem zrs_lt {p : Nat} (h : p < 12) : zrs p < 50 := by unfold zrs; omega
