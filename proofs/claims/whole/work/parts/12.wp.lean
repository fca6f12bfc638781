/-! the whole: a block that zwp holds of runs -/
section ZW
variable {X : zX} {y n0 : Nat} {P : Option Value → zHp → Prop}
theorem zsh_lt {n : Nat} (h : (zsh n).1 < 9) : n < 100 := by
  refine Nat.not_le.mp fun q => ?_
  have : sHl.length ≤ n := Nat.le_trans (by decide +kernel) q
  simp [zsh, List.getD_eq_getElem?_getD, List.getElem?_eq_none this] at h
theorem zs_of_newarray {n : Nat} {ls st : List Value} {H : zHp} {x a b : Nat} {v : Int} {c : List zI} {k0 : Jvm.ClassFile.ArrayType} {q : Int32} (hsh : (zsh n).1 = x) (hq : zal n < 100000 ∧ q = nI (zal n)) (hN : zokN y n0 n) (ih : zRun X y n0 (n + 1) c ls (.ref n :: st) (if x = 2 then zrL H n (fun _ => 0) else zrI H n (fun _ => 0)) P) : zRun X y n0 n ((.newarray k0, x, a, b, v) :: c) ls (.int q :: st) H P := by
  by_cases hx : x < 9
  · exact zs_newarray hsh hq hN (zsh_lt (by omega)) ih
  · intro hm p9 e s m args below meth c0 hA pc hat lsA Hm locs hS
    obtain ⟨k, hd, hk, -⟩ := zat_cons (by nofun) hat
    exfalso
    cases k0 <;> simp [zok] at hk <;> omega
theorem zwp_sound {J : Nat → Int → Nat → List Value → List Value → zHp → Prop} {K : Nat → Int → Nat → List Value → zHp → (Option Value → zHp → Prop) → Prop}
    (hJ : ∀ (t : Nat) (v : Int) (n : Nat) (ls st : List Value) (H : zHp), J t v n ls st H → zRun X y n0 n (blk y t) ls st H P)
    (hK : ∀ (z : Nat) (v : Int) (n : Nat) (As : List Value) (H : zHp) (Q : Option Value → zHp → Prop), zmok z = true → K z v n As H Q → zCall X z n As H Q) :
    ∀ (c : List zI) (n : Nat) (ls st : List Value) (H : zHp), zwp X y n0 P J K c n ls st H → zRun X y n0 n c ls st H P := by
  intro c
  induction c with
  | nil => intro n ls st H h; exact h.elim
  | cons q c ih =>
    obtain ⟨i, x, a, b, v⟩ := q
    intro n ls st H h
    unfold zwp at h
    split at h
    · exact zs_nop (hJ _ _ _ _ _ _ h)
    · exact zs_goto (hJ _ _ _ _ _ _ h)
    · exact zs_iconst (ih _ _ _ _ h)
    · exact zs_bipush (ih _ _ _ _ h)
    · exact zs_sipush (ih _ _ _ _ h)
    · exact zs_ldc_w (ih _ _ _ _ h)
    · exact zs_lconst (ih _ _ _ _ h)
    · exact zs_ldc2_w (ih _ _ _ _ h)
    · exact zs_iload h.1 (ih _ _ _ _ h.2)
    · exact zs_iload_n h.1 (ih _ _ _ _ h.2)
    · exact zs_lload h.1 (ih _ _ _ _ h.2)
    · exact zs_lload_n h.1 (ih _ _ _ _ h.2)
    · exact zs_aload h.1 (ih _ _ _ _ h.2)
    · exact zs_aload_n h.1 (ih _ _ _ _ h.2)
    · exact zs_istore (ih _ _ _ _ h)
    · exact zs_istore_n (ih _ _ _ _ h)
    · exact zs_lstore (ih _ _ _ _ h)
    · exact zs_lstore_n (ih _ _ _ _ h)
    · exact zs_astore (ih _ _ _ _ h)
    · exact zs_astore_n (ih _ _ _ _ h)
    · split at h
      · rename_i hq
        exact zs_iinc hq (ih _ _ _ _ h)
      · exact h.elim
    · exact zs_iadd (ih _ _ _ _ h)
    · exact zs_isub (ih _ _ _ _ h)
    · exact zs_imul (ih _ _ _ _ h)
    · exact zs_iand (ih _ _ _ _ h)
    · exact zs_ior (ih _ _ _ _ h)
    · exact zs_ixor (ih _ _ _ _ h)
    · exact zs_idiv h.1 (ih _ _ _ _ h.2)
    · exact zs_irem h.1 (ih _ _ _ _ h.2)
    · exact zs_ishl (ih _ _ _ _ h)
    · exact zs_ishr (ih _ _ _ _ h)
    · exact zs_iushr (ih _ _ _ _ h)
    · exact zs_ladd (ih _ _ _ _ h)
    · exact zs_lsub (ih _ _ _ _ h)
    · exact zs_lmul (ih _ _ _ _ h)
    · exact zs_land (ih _ _ _ _ h)
    · exact zs_lor (ih _ _ _ _ h)
    · exact zs_lxor (ih _ _ _ _ h)
    · exact zs_lshl (ih _ _ _ _ h)
    · exact zs_lshr (ih _ _ _ _ h)
    · exact zs_lushr (ih _ _ _ _ h)
    · exact zs_i2l (ih _ _ _ _ h)
    · exact zs_l2i (ih _ _ _ _ h)
    · exact zs_i2b (ih _ _ _ _ h)
    · exact zs_lcmp (ih _ _ _ _ h)
    · exact zs_dupi (ih _ _ _ _ h)
    · exact zs_dupr (ih _ _ _ _ h)
    · exact zs_dup2 (ih _ _ _ _ h)
    · exact zs_if_eq (fun hc => hJ _ _ _ _ _ _ (by rwa [if_pos hc] at h)) (fun hc => ih _ _ _ _ (by rwa [if_neg hc] at h))
    · exact zs_if_ne (fun hc => ih _ _ _ _ (by rwa [if_pos hc] at h)) (fun hc => hJ _ _ _ _ _ _ (by rwa [if_neg hc] at h))
    · exact zs_if_lt (fun hc => hJ _ _ _ _ _ _ (by rwa [if_pos hc] at h)) (fun hc => ih _ _ _ _ (by rwa [if_neg hc] at h))
    · exact zs_if_ge (fun hc => ih _ _ _ _ (by rwa [if_pos hc] at h)) (fun hc => hJ _ _ _ _ _ _ (by rwa [if_neg hc] at h))
    · exact zs_if_gt (fun hc => ih _ _ _ _ (by rwa [if_pos hc] at h)) (fun hc => hJ _ _ _ _ _ _ (by rwa [if_neg hc] at h))
    · exact zs_if_le (fun hc => hJ _ _ _ _ _ _ (by rwa [if_pos hc] at h)) (fun hc => ih _ _ _ _ (by rwa [if_neg hc] at h))
    · exact zs_icmp_eq (fun hc => hJ _ _ _ _ _ _ (by rwa [if_pos hc] at h)) (fun hc => ih _ _ _ _ (by rwa [if_neg hc] at h))
    · exact zs_icmp_ne (fun hc => ih _ _ _ _ (by rwa [if_pos hc] at h)) (fun hc => hJ _ _ _ _ _ _ (by rwa [if_neg hc] at h))
    · exact zs_icmp_lt (fun hc => hJ _ _ _ _ _ _ (by rwa [if_pos hc] at h)) (fun hc => ih _ _ _ _ (by rwa [if_neg hc] at h))
    · exact zs_icmp_ge (fun hc => ih _ _ _ _ (by rwa [if_pos hc] at h)) (fun hc => hJ _ _ _ _ _ _ (by rwa [if_neg hc] at h))
    · exact zs_icmp_gt (fun hc => ih _ _ _ _ (by rwa [if_pos hc] at h)) (fun hc => hJ _ _ _ _ _ _ (by rwa [if_neg hc] at h))
    · exact zs_icmp_le (fun hc => hJ _ _ _ _ _ _ (by rwa [if_pos hc] at h)) (fun hc => ih _ _ _ _ (by rwa [if_neg hc] at h))
    · exact zs_table (fun j hj hq => hJ _ _ _ _ _ _ (h.1 j hj hq)) (fun hq => hJ _ _ _ _ _ _ (h.2 hq))
    · exact zs_getfield h.1 (ih _ _ _ _ h.2)
    · exact zs_putfield h.1 h.2.1 (ih _ _ _ _ h.2.2)
    · exact zs_getstatic (ih _ _ _ _ h)
    · split at h
      · exact zs_sload h.1 h.2.1 (ih _ _ _ _ h.2.2)
      · exact zs_iaload h.1 h.2.1 (ih _ _ _ _ h.2.2)
    · split at h
      · exact zs_tload h.1 h.2.1 (ih _ _ _ _ h.2.2)
      · exact zs_laload h.1 h.2.1 (ih _ _ _ _ h.2.2)
    · exact zs_baload h.1 h.2.1 (ih _ _ _ _ h.2.2)
    · exact zs_aaload h.1 h.2.1 h.2.2.1 (ih _ _ _ _ h.2.2.2)
    · exact zs_iastore h.1 h.2.1 (ih _ _ _ _ h.2.2)
    · exact zs_lastore h.1 h.2.1 (ih _ _ _ _ h.2.2)
    · exact zs_bastore h.1 h.2.1 (ih _ _ _ _ h.2.2)
    · exact zs_aastore h.1 h.2.1 h.2.2.1 (ih _ _ _ _ h.2.2.2)
    · split at h
      · exact zs_slen h.1 (ih _ _ _ _ h.2)
      · split at h
        · exact zs_tlen h.1 (ih _ _ _ _ h.2)
        · exact zs_arraylength h.1 (ih _ _ _ _ h.2)
    · exact zs_new h.1 h.2.1 (zsh_lt (by rw [h.1]; exact (by decide : (0 : Nat) < 9))) (ih _ _ _ _ h.2.2)
    · exact zs_of_newarray h.1 h.2.1 h.2.2.1 (ih _ _ _ _ h.2.2.2)
    · exact zs_anewarray h.1 h.2.1 h.2.2.1 (zsh_lt (by rw [h.1]; decide)) (ih _ _ _ _ h.2.2.2)
    · split at h
      · rename_i h9
        split at h
        · exact zs_min h9 h.1 (ih _ _ _ _ h.2)
        · exact h.elim
      · rename_i h9
        split at h
        · rename_i h8
          split at h
          · exact zs_max h8 h.1 (ih _ _ _ _ h.2)
          · exact h.elim
        · rename_i h8
          split at h
          · rename_i q1 st9
            exact zs_invs (As := [q1]) (rest := st9) h9 h8 rfl rfl h.1 (fun hz => hK _ _ _ _ _ _ hz h.2) (fun w H1 hq => ih _ _ _ _ hq)
          · rename_i q2 q1 st9
            exact zs_invs (As := [q1, q2]) (rest := st9) h9 h8 rfl rfl h.1 (fun hz => hK _ _ _ _ _ _ hz h.2) (fun w H1 hq => ih _ _ _ _ hq)
          · rename_i q3 q2 q1 st9
            exact zs_invs (As := [q1, q2, q3]) (rest := st9) h9 h8 rfl rfl h.1 (fun hz => hK _ _ _ _ _ _ hz h.2) (fun w H1 hq => ih _ _ _ _ hq)
          · exact h.elim
    · split at h
      · rename_i  o9 st9
        exact zs_invv (As := []) (rest := st9) h.1 rfl rfl h.2.1 (fun hz => hK _ _ _ _ _ _ hz h.2.2) (fun w H1 hq => ih _ _ _ _ hq)
      · rename_i q1 o9 st9
        exact zs_invv (As := [q1]) (rest := st9) h.1 rfl rfl h.2.1 (fun hz => hK _ _ _ _ _ _ hz h.2.2) (fun w H1 hq => ih _ _ _ _ hq)
      · rename_i q2 q1 o9 st9
        exact zs_invv (As := [q1, q2]) (rest := st9) h.1 rfl rfl h.2.1 (fun hz => hK _ _ _ _ _ _ hz h.2.2) (fun w H1 hq => ih _ _ _ _ hq)
      · rename_i q3 q2 q1 o9 st9
        exact zs_invv (As := [q1, q2, q3]) (rest := st9) h.1 rfl rfl h.2.1 (fun hz => hK _ _ _ _ _ _ hz h.2.2) (fun w H1 hq => ih _ _ _ _ hq)
      · rename_i q4 q3 q2 q1 o9 st9
        exact zs_invv (As := [q1, q2, q3, q4]) (rest := st9) h.1 rfl rfl h.2.1 (fun hz => hK _ _ _ _ _ _ hz h.2.2) (fun w H1 hq => ih _ _ _ _ hq)
      · exact h.elim
    · split at h
      · rename_i h9
        split at h
        · exact zs_obj h9 h.1 (ih _ _ _ _ h.2)
        · exact h.elim
      · rename_i h9
        split at h
        · rename_i  o9 st9
          exact zs_invi (As := []) (rest := st9) h9 h.1 rfl rfl h.2.1 h.2.2.1 (fun hz => hK _ _ _ _ _ _ hz h.2.2.2) (fun w H1 hq => ih _ _ _ _ hq)
        · rename_i q1 o9 st9
          exact zs_invi (As := [q1]) (rest := st9) h9 h.1 rfl rfl h.2.1 h.2.2.1 (fun hz => hK _ _ _ _ _ _ hz h.2.2.2) (fun w H1 hq => ih _ _ _ _ hq)
        · exact h.elim
    · exact zs_ireturn h.1 h.2.1 h.2.2
    · exact zs_lreturn h.1 h.2
    · exact zs_areturn h.1 h.2
    · exact zs_return h.1 h.2
    · exact h.elim
end ZW
