/-! stretches of arrays that are written one by one -/
def zsA (H : zHp) (a b n : Nat) (f : Nat → Int32) : zHp := (H.1, fun o j => if o = a ∧ b ≤ j ∧ j < b + n then f (j - b) else H.2.1 o j, H.2.2)
section HA
variable (H : zHp) (a b n : Nat) (f : Nat → Int32)
theorem h_AF : (zsA H a b n f).1 = H.1 := rfl
theorem h_AL : (zsA H a b n f).2.2 = H.2.2 := rfl
theorem h_AI (o j : Nat) (h : o ≠ a) : (zsA H a b n f).2.1 o j = H.2.1 o j := if_neg (fun q => h q.1)
theorem h_As (j : Nat) (h : b ≤ j ∧ j < b + n) : (zsA H a b n f).2.1 a j = f (j - b) := if_pos ⟨rfl, h⟩
theorem h_AA (j : Nat) (h : j < b ∨ b + n ≤ j) : (zsA H a b n f).2.1 a j = H.2.1 a j := if_neg (fun q => by omega)
theorem h_A0 : zsA H a b 0 f = H := by
  unfold zsA
  have : (fun o j => if o = a ∧ b ≤ j ∧ j < b + 0 then f (j - b) else H.2.1 o j) = H.2.1 := funext fun o => funext fun j => if_neg (fun q => by omega)
  rw [this]
theorem h_A1 (v : Int32) (hv : v = f n) : zsI (zsA H a b n f) a (b + n) v = zsA H a b (n + 1) f := by
  subst hv
  unfold zsI zsA
  refine Prod.ext rfl (Prod.ext (funext fun o => funext fun j => ?_) rfl)
  show (if o = a ∧ j = b + n then f n else if o = a ∧ b ≤ j ∧ j < b + n then f (j - b) else H.2.1 o j) = if o = a ∧ b ≤ j ∧ j < b + (n + 1) then f (j - b) else H.2.1 o j
  by_cases h : o = a
  · by_cases h2 : j = b + n
    · have e : j - b = n := by omega
      rw [if_pos ⟨h, h2⟩, if_pos ⟨h, by omega, by omega⟩, e]
    · rw [if_neg (fun q => h2 q.2)]
      by_cases h3 : b ≤ j ∧ j < b + n
      · rw [if_pos ⟨h, h3⟩, if_pos ⟨h, by omega, by omega⟩]
      · rw [if_neg (fun q => h3 q.2), if_neg (fun q => by omega)]
  · rw [if_neg (fun q => h q.1), if_neg (fun q => h q.1), if_neg (fun q => h q.1)]
theorem zsm_A {T : Nat → Prop} {H0 : zHp} (h : zsm T H0 H) (ha : T a) : zsm T H0 (zsA H a b n f) := zsm_tr h (fun o ho => ⟨rfl, funext fun j => h_AI H a b n f o j (fun e => ho (e ▸ ha)), rfl⟩)
theorem zRf_sA (h : zRf H) : zRf (zsA H a b n f) := h
end HA
theorem zup_up {α : Type} (R : Nat → α) (p : Nat) (u v : α) : zup (zup R p u) p v = zup R p v := funext fun q => by
  unfold zup; split <;> rfl
theorem zup_id {α : Type} (R : Nat → α) (p : Nat) (v : α) (h : R p = v) : zup R p v = R := funext fun q => by
  unfold zup; split
  · next e => rw [e, h]
  · rfl
/-- a step is put to a rope -/
theorem zIX_add {H : zHp} {S : zU} {p x : Nat} {w : List Nat} (hI : zIX H S) (hp : p < 12) (hr : S.2.1 p = some w) : zIX (zsF (zsI H (zrs p) w.length (nI x)) (zrp p) 1 (.int (nI (w.length + 1)))) (S.1, zup S.2.1 p (some (w ++ [x])), S.2.2) := by
  have hlt := zrp_lt hp
  have g := zIr_some hI hp hr
  refine zIX_rope hI hp (zsm_F (zsm_I zsm_rf (Or.inr rfl)) (Or.inl rfl)) (zRf_rope (zRf_sI hI.1) (by omega) (by omega) (by decide)) ⟨?_, ?_, fun j hj => ?_⟩
  · simp (disch := omega) only [h_FF, h_IF]; exact g.1
  · rw [h_Fs, List.length_append]; rfl
  · rw [List.length_append] at hj
    rw [h_FI, ← hlt.2.2]
    by_cases e : j = w.length
    · subst e
      rw [h_Is, z_app_last]
    · have hj2 : j < w.length := by simp at hj; omega
      rw [h_II _ _ _ _ _ _ (by omega), g.2.2 j hj2, z_app_lt hj2]
theorem zrow_app {w v : List Nat} (h : zrow w) (h2 : zrow v) (hl : w.length + v.length ≤ 64) : zrow (w ++ v) := ⟨by rw [List.length_append]; exact hl, fun x hx => by
  rcases List.mem_append.mp hx with hx | hx
  · exact h.2 x hx
  · exact h2.2 x hx⟩
/-- n steps of w from place i on -/
def zcut (w : List Nat) (i n : Nat) : List Nat := (w.drop i).take n
theorem zcut_len {w : List Nat} {i n : Nat} (h : i + n ≤ w.length) : (zcut w i n).length = n := by
  unfold zcut
  rw [List.length_take, List.length_drop]
  omega
theorem zcut_at {w : List Nat} {i n j : Nat} (h : j < n) : (zcut w i n).getD j 0 = w.getD (i + j) 0 := by
  unfold zcut
  simp only [List.getD_eq_getElem?_getD]
  rw [List.getElem?_take_of_lt h, List.getElem?_drop]
theorem zcut_s {w : List Nat} {i n : Nat} (h : i + n < w.length) : zcut w i (n + 1) = zcut w i n ++ [w.getD (i + n) 0] := by
  unfold zcut
  rw [List.take_add_one, List.getElem?_drop, List.getD_eq_getElem?_getD, List.getElem?_eq_getElem h]
  rfl
theorem zcut_row {w : List Nat} (h : zrow w) (i n : Nat) : zrow (zcut w i n) := by
  refine ⟨?_, fun x hx => h.2 x (List.mem_of_mem_drop (List.mem_of_mem_take hx))⟩
  unfold zcut
  rw [List.length_take, List.length_drop]
  have := h.1
  omega
theorem z_app_ge {w v : List Nat} (j : Nat) : (w ++ v).getD (w.length + j) 0 = v.getD j 0 := by
  simp only [List.getD_eq_getElem?_getD]
  rw [List.getElem?_append_right (by omega)]
  congr 2
  omega
theorem z_row_at {w : List Nat} (h : zrow w) {j : Nat} (hj : j < w.length) : w.getD j 0 < 6 := by
  rw [List.getD_eq_getElem?_getD, List.getElem?_eq_getElem hj]
  exact h.2 _ (List.getElem_mem hj)
theorem z_row_at0 {w : List Nat} (h : zrow w) (j : Nat) : w.getD j 0 < 6 := by
  by_cases hj : j < w.length
  · exact z_row_at h hj
  · rw [List.getD_eq_getElem?_getD, List.getElem?_eq_none (by omega)]
    decide
