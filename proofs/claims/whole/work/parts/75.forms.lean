/-! least forms: what is known of them -/
theorem zsee_iff {q : Nat → Nat} : ∀ {n x : Nat}, x ∈ zsee q n ↔ ∃ t, t < n ∧ q t = x
  | 0, x => ⟨fun h => absurd h List.not_mem_nil, fun ⟨t, h, _⟩ => absurd h (by omega)⟩
  | n + 1, x => by
    by_cases h : q n ∈ zsee q n
    · rw [zsee_s h, zsee_iff]
      constructor
      · rintro ⟨t, h1, h2⟩
        exact ⟨t, by omega, h2⟩
      · rintro ⟨t, h1, h2⟩
        by_cases e : t = n
        · subst e
          rw [h2] at h
          exact zsee_iff.mp h
        · exact ⟨t, by omega, h2⟩
    · rw [zsee_n h, List.mem_append, List.mem_singleton, zsee_iff]
      constructor
      · rintro (⟨t, h1, h2⟩ | h1)
        · exact ⟨t, by omega, h2⟩
        · exact ⟨n, by omega, h1.symm⟩
      · rintro ⟨t, h1, h2⟩
        by_cases e : t = n
        · subst e; exact Or.inr h2.symm
        · exact Or.inl ⟨t, by omega, h2⟩
theorem zsee_pre {q : Nat → Nat} {n : Nat} : ∀ m, ∃ r, zsee q (n + m) = zsee q n ++ r
  | 0 => ⟨[], (List.append_nil _).symm⟩
  | m + 1 => by
    obtain ⟨r, hr⟩ := zsee_pre (q := q) (n := n) m
    by_cases h : q (n + m) ∈ zsee q (n + m)
    · exact ⟨r, by rw [← Nat.add_assoc, zsee_s h, hr]⟩
    · exact ⟨r ++ [q (n + m)], by rw [← Nat.add_assoc, zsee_n h, hr, List.append_assoc]⟩
theorem zidx_inj : ∀ {l : List Nat} {x y : Nat}, x ∈ l → y ∈ l → zidx l x = zidx l y → x = y
  | a :: l, x, y, hx, hy, h => by
    have h : (if a = x then 0 else zidx l x + 1) = (if a = y then 0 else zidx l y + 1) := h
    by_cases e : a = x
    · by_cases e2 : a = y
      · rw [← e, ← e2]
      · rw [if_pos e, if_neg e2] at h; omega
    · by_cases e2 : a = y
      · rw [if_neg e, if_pos e2] at h; omega
      · rw [if_neg e, if_neg e2] at h
        have hx : x ∈ l := by
          rcases List.mem_cons.mp hx with q | q
          · exact absurd q.symm e
          · exact q
        have hy : y ∈ l := by
          rcases List.mem_cons.mp hy with q | q
          · exact absurd q.symm e2
          · exact q
        exact zidx_inj hx hy (by omega)
theorem zfrm_eq {q : Nat → Nat} {t n : Nat} (h : t < n) : zfrm q t = zidx (zsee q n) (q t) := by
  obtain ⟨h1, h2⟩ := zfrm_see (q := q) (i := t)
  obtain ⟨r, hr⟩ := zsee_pre (q := q) (n := t + 1) (n - (t + 1))
  have e : t + 1 + (n - (t + 1)) = n := by omega
  rw [e] at hr
  rw [hr, zidx_app h1, h2]
theorem zfrm_same {q : Nat → Nat} {t u : Nat} : zfrm q t = zfrm q u ↔ q t = q u := by
  rw [zfrm_eq (q := q) (t := t) (n := t + u + 1) (by omega), zfrm_eq (q := q) (t := u) (n := t + u + 1) (by omega)]
  exact ⟨fun h => zidx_inj (zsee_iff.mpr ⟨t, by omega, rfl⟩) (zsee_iff.mpr ⟨u, by omega, rfl⟩) h, fun h => by rw [h]⟩
theorem zsee_len_ren {q r : Nat → Nat} {n : Nat} (h : ∀ t u, t < n → u < n → (q t = q u ↔ r t = r u)) : ∀ j, j ≤ n → (zsee q j).length = (zsee r j).length
  | 0, _ => rfl
  | j + 1, hj => by
    have ih := zsee_len_ren h j (by omega)
    by_cases hm : q j ∈ zsee q j
    · have hm2 : r j ∈ zsee r j := by
        obtain ⟨t, ht, e⟩ := zsee_iff.mp hm
        exact zsee_iff.mpr ⟨t, ht, (h t j (by omega) (by omega)).mp e⟩
      rw [zsee_s hm, zsee_s hm2, ih]
    · have hm2 : ¬ r j ∈ zsee r j := fun q2 => by
        obtain ⟨t, ht, e⟩ := zsee_iff.mp q2
        exact hm (zsee_iff.mpr ⟨t, ht, (h t j (by omega) (by omega)).mpr e⟩)
      rw [zsee_n hm, zsee_n hm2, List.length_append, List.length_append, ih]
      rfl
theorem zfrm_ren {q r : Nat → Nat} {n : Nat} (h : ∀ t u, t < n → u < n → (q t = q u ↔ r t = r u)) : ∀ j, j < n → zfrm q j = zfrm r j := by
  intro j
  induction j using Nat.strongRecOn with
  | _ j ih =>
    intro hj
    by_cases hm : q j ∈ zsee q j
    · obtain ⟨t, ht, e⟩ := zsee_iff.mp hm
      have e2 := (h t j (by omega) hj).mp e
      rw [← zfrm_same.mpr e, ← zfrm_same.mpr e2]
      exact ih t ht (by omega)
    · have hm2 : ¬ r j ∈ zsee r j := fun q2 => by
        obtain ⟨t, ht, e⟩ := zsee_iff.mp q2
        exact hm (zsee_iff.mpr ⟨t, ht, (h t j (by omega) hj).mpr e⟩)
      unfold zfrm
      rw [zidx_out hm, zidx_out hm2]
      exact zsee_len_ren h j (by omega)
theorem z_ndD {D : Nat} {t : List Nat} (h : t.Nodup) (hD : ∀ x ∈ t, x < D) : t.length ≤ D := by
  refine fb_holes D t.length (fun i => t.getD i 0) (fun i hi => ?_) (fun i j hi hj e => ?_)
  · show t.getD i 0 < D
    rw [List.getD_eq_getElem?_getD, List.getElem?_eq_getElem hi]
    exact hD _ (List.getElem_mem hi)
  · have hi2 : i < t.length := by omega
    have e : t.getD i 0 = t.getD j 0 := e
    rw [List.getD_eq_getElem?_getD, List.getElem?_eq_getElem hi2, List.getD_eq_getElem?_getD, List.getElem?_eq_getElem hj] at e
    exact (List.pairwise_iff_getElem.mp h) i j hi2 hj hi e
theorem zfrm_D {q : Nat → Nat} {D n : Nat} (h : ∀ t, t < n → q t < D) {j : Nat} (hj : j < n) : zfrm q j < D := by
  obtain ⟨h1, h2⟩ := zfrm_see (q := q) (i := j)
  have h3 := zidx_in h1
  have h4 : (zsee q (j + 1)).length ≤ D := z_ndD (zsee_nd q (j + 1)) (fun x hx => by
    obtain ⟨t, ht, e⟩ := zsee_iff.mp hx
    rw [← e]
    exact h t (by omega))
  omega
def zcan (w : List Nat) : Prop := ∀ j, j < w.length → w.getD j 0 ≤ zmwn w j
theorem zmwn_frm {w : List Nat} {q : Nat → Nat} (h : ∀ j, j < w.length → w.getD j 0 = zfrm q j) : ∀ n, n ≤ w.length → zmwn w n = (zsee q n).length
  | 0, _ => rfl
  | n + 1, hn => by
    show max (zmwn w n) (w.getD n 0 + 1) = _
    rw [zmwn_frm h n (by omega), h n (by omega)]
    by_cases hm : q n ∈ zsee q n
    · rw [zsee_s hm]
      have : zfrm q n < (zsee q n).length := zidx_in hm
      omega
    · rw [zsee_n hm, List.length_append]
      have : zfrm q n = (zsee q n).length := zidx_out hm
      show max _ _ = (zsee q n).length + 1
      omega
theorem zcan_frm0 {w : List Nat} {q : Nat → Nat} (h : ∀ j, j < w.length → w.getD j 0 = zfrm q j) : zcan w := fun j hj => by
  rw [zmwn_frm h j (by omega), h j hj]
  unfold zfrm
  by_cases hm : q j ∈ zsee q j
  · exact Nat.le_of_lt (zidx_in hm)
  · rw [zidx_out hm]
    exact Nat.le_refl _
theorem zidx_range : ∀ {m x : Nat}, x < m → zidx (List.range m) x = x
  | m + 1, x, h => by
    rw [List.range_succ]
    by_cases e : x < m
    · rw [zidx_app (List.mem_range.mpr e), zidx_range e]
    · have e : x = m := by omega
      subst e
      rw [zidx_new (fun q => absurd (List.mem_range.mp q) (by omega)), List.length_range]
theorem zcan_see {w : List Nat} (h : zcan w) : ∀ n, n ≤ w.length → zsee (zsw' w) n = List.range (zmwn w n)
  | 0, _ => rfl
  | n + 1, hn => by
    have ih := zcan_see h n (by omega)
    have hc := h n (by omega)
    have e : zsw' w n = w.getD n 0 := rfl
    have e2 : zmwn w (n + 1) = max (zmwn w n) (w.getD n 0 + 1) := rfl
    by_cases hm : w.getD n 0 < zmwn w n
    · rw [zsee_s (by rw [ih, e]; exact List.mem_range.mpr hm), ih, e2]
      congr 1
      omega
    · have e3 : w.getD n 0 = zmwn w n := by omega
      rw [zsee_n (by rw [ih, e]; exact fun q => hm (List.mem_range.mp q)), ih, e, e2, e3]
      have e4 : max (zmwn w n) (zmwn w n + 1) = zmwn w n + 1 := by omega
      rw [e4, List.range_succ]
theorem zcan_frm {w : List Nat} (h : zcan w) {j : Nat} (hj : j < w.length) : zfrm (zsw' w) j = w.getD j 0 := by
  unfold zfrm
  rw [zcan_see h j (by omega)]
  have hc := h j hj
  have e : zsw' w j = w.getD j 0 := rfl
  rw [e]
  by_cases hm : w.getD j 0 < zmwn w j
  · exact zidx_range hm
  · rw [zidx_out (fun q => hm (List.mem_range.mp q)), List.length_range]
    omega
/-! readings of readings -/
def znxp (L : Nat) (b : Bool) (p : Nat) : Nat := if b = true then (if 0 < p then p - 1 else L - 1) else (if p + 1 < L then p + 1 else 0)
theorem zplc_nx {L f k : Nat} {b : Bool} (hL : 0 < L) (hk : k < L) : zplc L f b (k + 1) = znxp L b (zplc L f b k) := by
  cases b
  · exact zplc_f hL
  · exact zplc_b hL hk
theorem zplc_L {L f : Nat} (hf : f < L) (b : Bool) : zplc L f b L = f := by
  unfold zplc
  cases b
  · rw [if_neg (by decide), Nat.add_mod_right, Nat.mod_eq_of_lt hf]
  · have e : f + 2 * L - L = f + L := by omega
    rw [if_pos rfl, e, Nat.add_mod_right, Nat.mod_eq_of_lt hf]
theorem znxp_t (L p : Nat) : znxp L true p = if 0 < p then p - 1 else L - 1 := if_pos rfl
theorem znxp_f (L p : Nat) : znxp L false p = if p + 1 < L then p + 1 else 0 := if_neg (by decide)
theorem znxp_ft {L p : Nat} (hp : p < L) : znxp L true (znxp L false p) = p := by
  rw [znxp_t, znxp_f]
  by_cases h : p + 1 < L
  · rw [if_pos h, if_pos (by omega)]
    omega
  · rw [if_neg h, if_neg (by omega)]
    omega
theorem znxp_tf {L p : Nat} (hp : p < L) : znxp L false (znxp L true p) = p := by
  rw [znxp_t, znxp_f]
  by_cases h : 0 < p
  · rw [if_pos h, if_pos (by omega)]
    omega
  · rw [if_neg h, if_neg (by omega)]
    omega
theorem zplc_nxp {L f p : Nat} {b b' : Bool} (hf : f < L) (hp : p < L) : zplc L f b (znxp L b' p) = znxp L (b ^^ b') (zplc L f b p) := by
  have hL : 0 < L := by omega
  have hpl := zplc_lt hL f b
  have up : zplc L f b (znxp L false p) = znxp L b (zplc L f b p) := by
    unfold znxp
    rw [if_neg (by decide)]
    by_cases h : p + 1 < L
    · rw [if_pos h]
      exact zplc_nx hL hp
    · rw [if_neg h, zplc_0 hf]
      have e : p + 1 = L := by omega
      have h2 := zplc_nx (f := f) (b := b) hL hp
      rw [e, zplc_L hf] at h2
      exact h2
  have dn : zplc L f b p = znxp L b (zplc L f b (znxp L true p)) := by
    by_cases h : 0 < p
    · have e : znxp L true p = p - 1 := by
        unfold znxp
        rw [if_pos rfl, if_pos h]
      rw [e]
      have h2 := zplc_nx (f := f) (b := b) (k := p - 1) hL (by omega)
      rw [Nat.sub_add_cancel h] at h2
      exact h2
    · have e0 : p = 0 := by omega
      have e : znxp L true p = L - 1 := by
        unfold znxp
        rw [if_pos rfl, if_neg h]
      rw [e, e0, zplc_0 hf]
      have h2 := zplc_nx (f := f) (b := b) (k := L - 1) hL (by omega)
      rw [Nat.sub_add_cancel hL, zplc_L hf] at h2
      exact h2
  cases b'
  · rw [Bool.xor_false]
    exact up
  · rw [Bool.xor_true, dn]
    cases b
    · exact (znxp_ft (hpl _)).symm
    · exact (znxp_tf (hpl _)).symm
theorem zplc_comp {L f f' : Nat} {b b' : Bool} (hf : f < L) (hf' : f' < L) : ∀ t, t ≤ L → zplc L f b (zplc L f' b' t) = zplc L (zplc L f b f') (b ^^ b') t
  | 0, _ => by rw [zplc_0 hf', zplc_0 (zplc_lt (by omega) _ _ _)]
  | t + 1, ht => by
    have hL : 0 < L := by omega
    rw [zplc_nx hL (by omega), zplc_nxp hf (zplc_lt hL _ _ _), zplc_comp hf hf' t (by omega), zplc_nx hL (by omega)]
theorem zokr_comp {L f f' : Nat} {ring b b' : Bool} (h : zokr L ring f b) (h' : zokr L ring f' b') : zokr L ring (zplc L f b f') (b ^^ b') := by
  have hL : 0 < L := by have := h.1; omega
  refine ⟨zplc_lt hL _ _ _, fun e => ?_⟩
  rcases h.2 e with ⟨rfl, rfl⟩ | ⟨rfl, rfl⟩
  · rcases h'.2 e with ⟨rfl, rfl⟩ | ⟨rfl, rfl⟩
    · exact Or.inl ⟨rfl, zplc_0 hL _⟩
    · refine Or.inr ⟨rfl, ?_⟩
      unfold zplc
      rw [if_neg (by decide), Nat.zero_add, Nat.mod_eq_of_lt (by omega)]
  · rcases h'.2 e with ⟨rfl, rfl⟩ | ⟨rfl, rfl⟩
    · exact Or.inr ⟨rfl, zplc_0 (by omega) _⟩
    · refine Or.inl ⟨rfl, ?_⟩
      unfold zplc
      have e2 : L - 1 + 2 * L - (L - 1) = 2 * L := by omega
      rw [if_pos rfl, e2, Nat.mul_mod_left]
/-! the least form -/
theorem zLF_row {ring : Bool} {w : List Nat} (hw : zrow w) : zrow (zLF ring w) := by
  refine ⟨by rw [zLF_len]; exact hw.1, fun x hx => ?_⟩
  unfold zLF at hx
  obtain ⟨j, -, rfl⟩ := List.mem_map.mp hx
  exact zfrm_lt (zsq_lt (zsw_lt6 hw) _ _ _) j
theorem zLF_can (ring : Bool) (w : List Nat) : zcan (zLF ring w) := zcan_frm0 (q := zsq (zsw' w) w.length (zLfb ring w).1 (zLfb ring w).2) (fun j hj => zLF_at (by rw [zLF_len] at hj; exact hj))
theorem zLF_D {ring : Bool} {D : Nat} {w : List Nat} (h : ∀ j, j < w.length → w.getD j 0 < D) : ∀ j, j < w.length → (zLF ring w).getD j 0 < D := fun j hj => by
  rw [zLF_at hj]
  exact zfrm_D (n := w.length) (fun t ht => h _ (zplc_lt (by omega) _ _ _)) hj
theorem zvl_first {g h : Nat → Nat} : ∀ {n : Nat}, (∀ j, j < n → g j < 8) → (∀ j, j < n → h j < 8) → zvl g n < zvl h n → ∃ i, i < n ∧ (∀ j, j < i → g j = h j) ∧ g i < h i
  | 0, _, _, e => (Nat.lt_irrefl 0 e).elim
  | n + 1, hg, hh, e => by
    have e : 8 * zvl g n + g n < 8 * zvl h n + h n := e
    have h1 := hg n (by omega)
    have h2 := hh n (by omega)
    by_cases h3 : zvl g n < zvl h n
    · obtain ⟨i, hi, h4, h5⟩ := zvl_first (n := n) (fun j hj => hg j (by omega)) (fun j hj => hh j (by omega)) h3
      exact ⟨i, by omega, h4, h5⟩
    · have h4 : zvl g n = zvl h n := by omega
      exact ⟨n, by omega, zvl_inj (fun j hj => hg j (by omega)) (fun j hj => hh j (by omega)) h4, by omega⟩
theorem zLF_val {ring : Bool} {w : List Nat} : zvl (zsw' (zLF ring w)) w.length = zvr (zsw' w) w.length (zLfb ring w).1 (zLfb ring w).2 := zvl_cong (fun j hj => zLF_at hj)
theorem zrow8 {w : List Nat} (hw : zrow w) (j : Nat) : zsw' w j < 8 := Nat.lt_trans (zsw_lt6 hw j) (by decide)
theorem zLF_le {ring : Bool} {w : List Nat} (hw : zrow w) (hc : zcan w) : zLF ring w = w ∨ zlt w.length (zLF ring w) w := by
  by_cases hL : 0 < w.length
  · have hm := (zLfb_ok ring w hL).2 0 false ⟨hL, fun _ => Or.inl ⟨rfl, rfl⟩⟩
    rw [← zLF_val] at hm
    have e : zvr (zsw' w) w.length 0 false = zvl (zsw' w) w.length := zvl_cong (fun j hj => by
      have e2 : ∀ t, t < w.length → zsq (zsw' w) w.length 0 false t = zsw' w t := fun t ht => by
        unfold zsq zplc
        rw [if_neg (by decide), Nat.zero_add, Nat.mod_eq_of_lt ht]
      rw [zfrm_ren (q := zsq (zsw' w) w.length 0 false) (r := zsw' w) (n := w.length) (fun t u ht hu => by rw [e2 t ht, e2 u hu]) j hj]
      exact zcan_frm hc hj)
    rw [e] at hm
    rcases Nat.lt_or_ge (zvl (zsw' (zLF ring w)) w.length) (zvl (zsw' w) w.length) with h | h
    · exact Or.inr (zvl_first (fun j _ => zrow8 (zLF_row hw) j) (fun j _ => zrow8 hw j) h)
    · refine Or.inl (zl_ext (zLF_len ring w) (fun j hj => ?_))
      rw [zLF_len] at hj
      exact zvl_inj (fun j _ => zrow8 (zLF_row (ring := ring) hw) j) (fun j _ => zrow8 hw j) (Nat.le_antisymm hm h) j hj
  · left
    have e : w = [] := List.eq_nil_of_length_eq_zero (by omega)
    subst e
    exact zLF_nil ring
theorem zLF_idem {ring : Bool} {w : List Nat} (hw : zrow w) : zLF ring (zLF ring w) = zLF ring w := by
  by_cases hL : 0 < w.length
  · rcases zLF_le (ring := ring) (zLF_row (ring := ring) hw) (zLF_can ring w) with h | h
    · exact h
    · exfalso
      rw [zLF_len] at h
      obtain ⟨i, hi, h1, h2⟩ := h
      have hlt : zvl (zsw' (zLF ring (zLF ring w))) w.length < zvl (zsw' (zLF ring w)) w.length := zvl_lt hi (fun j _ => zrow8 (zLF_row (zLF_row hw)) j) (fun j _ => zrow8 (zLF_row hw) j) h1 h2
      have e1 := zLF_val (ring := ring) (w := zLF ring w)
      rw [zLF_len] at e1
      have ok1 := zLfb_ok ring w hL
      have ok2 := zLfb_ok ring (zLF ring w) (by rw [zLF_len]; exact hL)
      rw [zLF_len] at ok2
      have hp := fun t => zplc_lt hL (zLfb ring (zLF ring w)).1 (zLfb ring (zLF ring w)).2 t
      have e2 : zvr (zsw' (zLF ring w)) w.length (zLfb ring (zLF ring w)).1 (zLfb ring (zLF ring w)).2 = zvr (zsw' w) w.length (zplc w.length (zLfb ring w).1 (zLfb ring w).2 (zLfb ring (zLF ring w)).1) ((zLfb ring w).2 ^^ (zLfb ring (zLF ring w)).2) := by
        refine zvl_cong (fun j hj => zfrm_ren (n := w.length) (fun t u ht hu => ?_) j hj)
        have e3 : ∀ t, t < w.length → zsq (zsw' (zLF ring w)) w.length (zLfb ring (zLF ring w)).1 (zLfb ring (zLF ring w)).2 t = zfrm (zsq (zsw' w) w.length (zLfb ring w).1 (zLfb ring w).2) (zplc w.length (zLfb ring (zLF ring w)).1 (zLfb ring (zLF ring w)).2 t) := fun t ht => zLF_at (hp t)
        have e4 : ∀ t, t < w.length → zsq (zsw' w) w.length (zplc w.length (zLfb ring w).1 (zLfb ring w).2 (zLfb ring (zLF ring w)).1) ((zLfb ring w).2 ^^ (zLfb ring (zLF ring w)).2) t = zsq (zsw' w) w.length (zLfb ring w).1 (zLfb ring w).2 (zplc w.length (zLfb ring (zLF ring w)).1 (zLfb ring (zLF ring w)).2 t) := fun t ht => by
          unfold zsq
          rw [zplc_comp ok1.1.1 ok2.1.1 t (by omega)]
        rw [e3 t ht, e3 u hu, e4 t ht, e4 u hu]
        exact zfrm_same
      have hle := ok1.2 _ _ (zokr_comp ok1.1 ok2.1)
      rw [← e2, ← e1, ← zLF_val] at hle
      omega
  · have e : w = [] := List.eq_nil_of_length_eq_zero (by omega)
    subst e
    rw [zLF_nil, zLF_nil]
