/-! readings of a row and their forms, in numbers -/
def zidx : List Nat → Nat → Nat
  | [], _ => 0
  | a :: t, x => if a = x then 0 else zidx t x + 1
theorem zidx_in : ∀ {t : List Nat} {x : Nat}, x ∈ t → zidx t x < t.length
  | a :: t, x, h => by
    unfold zidx
    by_cases e : a = x
    · rw [if_pos e]; exact Nat.succ_pos _
    · rw [if_neg e]
      have : x ∈ t := by
        rcases List.mem_cons.mp h with q | q
        · exact absurd q.symm e
        · exact q
      have := zidx_in this
      simp; omega
theorem zidx_out : ∀ {t : List Nat} {x : Nat}, ¬ x ∈ t → zidx t x = t.length
  | [], _, _ => rfl
  | a :: t, x, h => by
    unfold zidx
    rw [if_neg (fun e : a = x => h (e ▸ List.mem_cons_self)), zidx_out (fun q => h (List.mem_cons_of_mem _ q))]
    rfl
theorem zidx_app : ∀ {t v : List Nat} {x : Nat}, x ∈ t → zidx (t ++ v) x = zidx t x
  | a :: t, v, x, h => by
    show (if a = x then 0 else zidx (t ++ v) x + 1) = (if a = x then 0 else zidx t x + 1)
    by_cases e : a = x
    · rw [if_pos e, if_pos e]
    · have : x ∈ t := by
        rcases List.mem_cons.mp h with q | q
        · exact absurd q.symm e
        · exact q
      rw [if_neg e, if_neg e, zidx_app this]
theorem zidx_new {t : List Nat} {x : Nat} (h : ¬ x ∈ t) : zidx (t ++ [x]) x = t.length := by
  induction t with
  | nil => show (if x = x then 0 else _) = 0; rw [if_pos rfl]
  | cons a t ih =>
    show (if a = x then 0 else zidx (t ++ [x]) x + 1) = _
    rw [if_neg (fun e : a = x => h (e ▸ List.mem_cons_self)), ih (fun q => h (List.mem_cons_of_mem _ q))]
    rfl
/-- the ways met in the first n steps, in order -/
def zsee (q : Nat → Nat) : Nat → List Nat
  | 0 => []
  | n + 1 => if q n ∈ zsee q n then zsee q n else zsee q n ++ [q n]
/-- the name of step n -/
def zfrm (q : Nat → Nat) (n : Nat) : Nat := zidx (zsee q n) (q n)
theorem zsee_s {q : Nat → Nat} {n : Nat} (h : q n ∈ zsee q n) : zsee q (n + 1) = zsee q n := if_pos h
theorem zsee_n {q : Nat → Nat} {n : Nat} (h : ¬ q n ∈ zsee q n) : zsee q (n + 1) = zsee q n ++ [q n] := if_neg h
theorem zsee_lt {q : Nat → Nat} (h : ∀ k, q k < 6) : ∀ n, ∀ x ∈ zsee q n, x < 6
  | 0, x, hx => absurd hx List.not_mem_nil
  | n + 1, x, hx => by
    unfold zsee at hx
    split at hx
    · exact zsee_lt h n x hx
    · rcases List.mem_append.mp hx with hx | hx
      · exact zsee_lt h n x hx
      · rw [List.mem_singleton.mp hx]; exact h n
theorem zsee_nd (q : Nat → Nat) : ∀ n, (zsee q n).Nodup
  | 0 => List.nodup_nil
  | n + 1 => by
    unfold zsee
    split
    · exact zsee_nd q n
    · next h =>
      rw [List.nodup_append]
      refine ⟨zsee_nd q n, List.nodup_cons.mpr ⟨List.not_mem_nil, List.nodup_nil⟩, fun a ha b hb e => ?_⟩
      rw [List.mem_singleton.mp hb] at e
      subst e
      exact h ha
theorem z_nd6 {t : List Nat} (h : t.Nodup) (h6 : ∀ x ∈ t, x < 6) : t.length ≤ 6 := by
  refine fb_holes 6 t.length (fun i => t.getD i 0) (fun i hi => ?_) (fun i j hi hj e => ?_)
  · show t.getD i 0 < 6
    rw [List.getD_eq_getElem?_getD, List.getElem?_eq_getElem hi]
    exact h6 _ (List.getElem_mem hi)
  · have hi2 : i < t.length := by omega
    have e : t.getD i 0 = t.getD j 0 := e
    rw [List.getD_eq_getElem?_getD, List.getElem?_eq_getElem hi2, List.getD_eq_getElem?_getD, List.getElem?_eq_getElem hj] at e
    have := (List.pairwise_iff_getElem.mp h) i j hi2 hj hi
    exact this e
theorem z_nd5 {t : List Nat} {x : Nat} (h : t.Nodup) (h6 : ∀ x ∈ t, x < 6) (hx : x < 6) (hn : ¬ x ∈ t) : t.length ≤ 5 := by
  have : (t ++ [x]).length ≤ 6 := z_nd6 (by
    rw [List.nodup_append]
    refine ⟨h, List.nodup_cons.mpr ⟨List.not_mem_nil, List.nodup_nil⟩, fun a ha b hb e => ?_⟩
    rw [List.mem_singleton.mp hb] at e
    subst e
    exact hn ha) (fun y hy => by
    rcases List.mem_append.mp hy with hy | hy
    · exact h6 y hy
    · rw [List.mem_singleton.mp hy]; exact hx)
  rw [List.length_append] at this
  simp at this
  omega
theorem zfrm_lt {q : Nat → Nat} (h : ∀ k, q k < 6) (n : Nat) : zfrm q n < 6 := by
  unfold zfrm
  by_cases hm : q n ∈ zsee q n
  · have := zidx_in hm
    have := z_nd6 (zsee_nd q n) (zsee_lt h n)
    omega
  · rw [zidx_out hm]
    have := z_nd5 (zsee_nd q n) (zsee_lt h n) (h n) hm
    omega
/-- the digits of a form as one number -/
def zvl (g : Nat → Nat) : Nat → Nat
  | 0 => 0
  | n + 1 => 8 * zvl g n + g n
theorem zvl_cong {g h : Nat → Nat} : ∀ {n : Nat}, (∀ j, j < n → g j = h j) → zvl g n = zvl h n
  | 0, _ => rfl
  | n + 1, e => by
    show 8 * zvl g n + g n = 8 * zvl h n + h n
    rw [zvl_cong (fun j hj => e j (by omega)), e n (by omega)]
theorem zvl_inj {g h : Nat → Nat} : ∀ {n : Nat}, (∀ j, j < n → g j < 8) → (∀ j, j < n → h j < 8) → zvl g n = zvl h n → ∀ j, j < n → g j = h j
  | 0, _, _, _, j, hj => absurd hj (by omega)
  | n + 1, hg, hh, e, j, hj => by
    have e : 8 * zvl g n + g n = 8 * zvl h n + h n := e
    have h1 := hg n (by omega)
    have h2 := hh n (by omega)
    by_cases h3 : j = n
    · subst h3; omega
    · exact zvl_inj (n := n) (fun j hj => hg j (by omega)) (fun j hj => hh j (by omega)) (by omega) j (by omega)
theorem zvl_lt {g h : Nat → Nat} {i : Nat} : ∀ {n : Nat}, i < n → (∀ j, j < n → g j < 8) → (∀ j, j < n → h j < 8) → (∀ j, j < i → g j = h j) → g i < h i → zvl g n < zvl h n
  | n + 1, hi, hg, hh, e, hlt => by
    show 8 * zvl g n + g n < 8 * zvl h n + h n
    have h1 := hg n (by omega)
    by_cases h3 : i = n
    · subst h3
      rw [zvl_cong e]
      omega
    · have := zvl_lt (n := n) (by omega) (fun j hj => hg j (by omega)) (fun j hj => hh j (by omega)) e hlt
      omega
/-! places of a reading -/
def zplc (L f : Nat) (b : Bool) (k : Nat) : Nat := if b then (f + 2 * L - k) % L else (f + k) % L
theorem zplc_lt {L : Nat} (h : 0 < L) (f : Nat) (b : Bool) (k : Nat) : zplc L f b k < L := by
  unfold zplc
  split <;> exact Nat.mod_lt _ h
theorem z_mod_s (x : Nat) {L : Nat} (hL : 0 < L) : (x + 1) % L = if x % L + 1 < L then x % L + 1 else 0 := by
  rw [← Nat.mod_add_mod]
  have := Nat.mod_lt x hL
  by_cases h : x % L + 1 < L
  · rw [if_pos h, Nat.mod_eq_of_lt h]
  · have e : x % L + 1 = L := by omega
    rw [if_neg h, e, Nat.mod_self]
theorem z_mod_p (x : Nat) {L : Nat} (hL : 0 < L) : x % L = if 0 < (x + 1) % L then (x + 1) % L - 1 else L - 1 := by
  have h := z_mod_s x hL
  have := Nat.mod_lt x hL
  by_cases h2 : x % L + 1 < L
  · rw [if_pos h2] at h
    rw [h, if_pos (by omega)]
    omega
  · rw [if_neg h2] at h
    rw [h, if_neg (by omega)]
    omega
theorem zplc_f {L f k : Nat} (hL : 0 < L) : zplc L f false (k + 1) = if zplc L f false k + 1 < L then zplc L f false k + 1 else 0 := z_mod_s (f + k) hL
theorem zplc_b {L f k : Nat} (hL : 0 < L) (hk : k < L) : zplc L f true (k + 1) = if 0 < zplc L f true k then zplc L f true k - 1 else L - 1 := by
  have h := z_mod_p (f + 2 * L - (k + 1)) hL
  have e : f + 2 * L - (k + 1) + 1 = f + 2 * L - k := by omega
  rw [e] at h
  exact h
theorem zplc_0 {L f : Nat} (hf : f < L) (b : Bool) : zplc L f b 0 = f := by
  unfold zplc
  split
  · rw [Nat.sub_zero, Nat.add_mul_mod_self_right, Nat.mod_eq_of_lt hf]
  · exact Nat.mod_eq_of_lt hf
def zbf (f L : Nat) : Nat := if 0 < f then f - 1 else L - 1
theorem zbf_lt {f L : Nat} (h : f < L) : zbf f L < L := by
  unfold zbf
  split <;> omega
def zsq (s : Nat → Nat) (L f : Nat) (b : Bool) : Nat → Nat := fun k => s (zplc L f b k)
/-- the form of a reading as a number -/
def zvr (s : Nat → Nat) (L f : Nat) (b : Bool) : Nat := zvl (zfrm (zsq s L f b)) L
/-- the readings that count: of a ring all, else those from the two ends -/
def zokr (L : Nat) (ring : Bool) (f : Nat) (b : Bool) : Prop := f < L ∧ (ring = false → (b = false ∧ f = 0) ∨ (b = true ∧ f = L - 1))
theorem z_least : ∀ (n : Nat) (P : Nat → Prop), P n → ∃ m, P m ∧ ∀ k, P k → m ≤ k := by
  intro n
  induction n using Nat.strongRecOn with
  | _ n ih =>
    intro P h
    by_cases h2 : ∃ k, k < n ∧ P k
    · obtain ⟨k, hk, hp⟩ := h2
      exact ih k hk P hp
    · exact ⟨n, h, fun k hk => Nat.le_of_not_lt (fun q => h2 ⟨k, q, hk⟩)⟩
def zmnr (s : Nat → Nat) (L : Nat) (ring : Bool) (f : Nat) (b : Bool) : Prop := zokr L ring f b ∧ ∀ f' b', zokr L ring f' b' → zvr s L f b ≤ zvr s L f' b'
/-- a least reading there is -/
theorem zmnr_ex (s : Nat → Nat) {L : Nat} (hL : 0 < L) (ring : Bool) : ∃ f b, zmnr s L ring f b := by
  obtain ⟨m, ⟨f, b, h1, h2⟩, h3⟩ := z_least (zvr s L 0 false) (fun m => ∃ f b, zokr L ring f b ∧ m = zvr s L f b) ⟨0, false, ⟨hL, fun _ => Or.inl ⟨rfl, rfl⟩⟩, rfl⟩
  exact ⟨f, b, h1, fun f' b' h => by rw [← h2]; exact h3 _ ⟨f', b', h, rfl⟩⟩
theorem zsq_lt {s : Nat → Nat} (h : ∀ k, s k < 6) (L f : Nat) (b : Bool) (k : Nat) : zsq s L f b k < 6 := h _
/-- contents that are a reading's form with the least number are the least reading's form -/
theorem zmnr_eq {s g : Nat → Nat} {L f f' : Nat} {ring b b' : Bool} (h6 : ∀ k, s k < 6) (h : zmnr s L ring f b) (h2 : zokr L ring f' b') (hg : ∀ j, j < L → g j = zfrm (zsq s L f' b') j) (hm : ∀ f' b', zokr L ring f' b' → zvl g L ≤ zvr s L f' b') : ∀ j, j < L → g j = zfrm (zsq s L f b) j := by
  have e1 : zvl g L = zvr s L f' b' := zvl_cong hg
  have e2 : zvl g L = zvr s L f b := by
    have := h.2 f' b' h2
    have := hm f b h.1
    omega
  exact zvl_inj (fun j hj => by rw [hg j hj]; exact Nat.lt_trans (zfrm_lt (zsq_lt h6 _ _ _) j) (by decide)) (fun j hj => Nat.lt_trans (zfrm_lt (zsq_lt h6 _ _ _) j) (by decide)) e2
