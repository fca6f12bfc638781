section ZT
variable {X : zX} {y n0 n n' : Nat} {P : Option Value → zHp → Prop} {ls ls' st st' : List Value} {H H' : zHp} {x a b : Nat} {v : Int} {c : List zI}
theorem zk1 {st : Nat → Nat} {y pc x a b k : Nat} {v : Int} {i : Jvm.ClassFile.Instr} (e : zok st y pc i x a b v k = (k == 1)) (h : zok st y pc i x a b v k = true) : k = 1 := by
  rw [e] at h
  exact beq_iff_eq.mp h
theorem zs_iadd {p q : Int32} (ih : zRun X y n0 n c ls (.int (p + q) :: st) H P) : zRun X y n0 n ((.iadd, x, a, b, v) :: c) ls (.int q :: .int p :: st) H P :=
  zs_of (by nofun) rfl ih (fun p9 e s m args below meth c0 hA pc k hd hk lsA Hm locs hS kk => by
    obtain rfl := zk1 rfl hk
    exact lv_iadd hA.1 hA.2.1 hd  (kk lsA Hm locs hS))
theorem zs_ladd {p q : Int64} (ih : zRun X y n0 n c ls (.long (p + q) :: st) H P) : zRun X y n0 n ((.ladd, x, a, b, v) :: c) ls (.long q :: .long p :: st) H P :=
  zs_of (by nofun) rfl ih (fun p9 e s m args below meth c0 hA pc k hd hk lsA Hm locs hS kk => by
    obtain rfl := zk1 rfl hk
    exact lv_ladd hA.1 hA.2.1 hd  (kk lsA Hm locs hS))
theorem zs_isub {p q : Int32} (ih : zRun X y n0 n c ls (.int (p - q) :: st) H P) : zRun X y n0 n ((.isub, x, a, b, v) :: c) ls (.int q :: .int p :: st) H P :=
  zs_of (by nofun) rfl ih (fun p9 e s m args below meth c0 hA pc k hd hk lsA Hm locs hS kk => by
    obtain rfl := zk1 rfl hk
    exact lv_isub hA.1 hA.2.1 hd  (kk lsA Hm locs hS))
theorem zs_lsub {p q : Int64} (ih : zRun X y n0 n c ls (.long (p - q) :: st) H P) : zRun X y n0 n ((.lsub, x, a, b, v) :: c) ls (.long q :: .long p :: st) H P :=
  zs_of (by nofun) rfl ih (fun p9 e s m args below meth c0 hA pc k hd hk lsA Hm locs hS kk => by
    obtain rfl := zk1 rfl hk
    exact lv_lsub hA.1 hA.2.1 hd  (kk lsA Hm locs hS))
theorem zs_imul {p q : Int32} (ih : zRun X y n0 n c ls (.int (p * q) :: st) H P) : zRun X y n0 n ((.imul, x, a, b, v) :: c) ls (.int q :: .int p :: st) H P :=
  zs_of (by nofun) rfl ih (fun p9 e s m args below meth c0 hA pc k hd hk lsA Hm locs hS kk => by
    obtain rfl := zk1 rfl hk
    exact lv_imul hA.1 hA.2.1 hd  (kk lsA Hm locs hS))
theorem zs_lmul {p q : Int64} (ih : zRun X y n0 n c ls (.long (p * q) :: st) H P) : zRun X y n0 n ((.lmul, x, a, b, v) :: c) ls (.long q :: .long p :: st) H P :=
  zs_of (by nofun) rfl ih (fun p9 e s m args below meth c0 hA pc k hd hk lsA Hm locs hS kk => by
    obtain rfl := zk1 rfl hk
    exact lv_lmul hA.1 hA.2.1 hd  (kk lsA Hm locs hS))
theorem zs_iand {p q : Int32} (ih : zRun X y n0 n c ls (.int (p &&& q) :: st) H P) : zRun X y n0 n ((.iand, x, a, b, v) :: c) ls (.int q :: .int p :: st) H P :=
  zs_of (by nofun) rfl ih (fun p9 e s m args below meth c0 hA pc k hd hk lsA Hm locs hS kk => by
    obtain rfl := zk1 rfl hk
    exact lv_iand hA.1 hA.2.1 hd  (kk lsA Hm locs hS))
theorem zs_land {p q : Int64} (ih : zRun X y n0 n c ls (.long (p &&& q) :: st) H P) : zRun X y n0 n ((.land, x, a, b, v) :: c) ls (.long q :: .long p :: st) H P :=
  zs_of (by nofun) rfl ih (fun p9 e s m args below meth c0 hA pc k hd hk lsA Hm locs hS kk => by
    obtain rfl := zk1 rfl hk
    exact lv_land hA.1 hA.2.1 hd  (kk lsA Hm locs hS))
theorem zs_ior {p q : Int32} (ih : zRun X y n0 n c ls (.int (p ||| q) :: st) H P) : zRun X y n0 n ((.ior, x, a, b, v) :: c) ls (.int q :: .int p :: st) H P :=
  zs_of (by nofun) rfl ih (fun p9 e s m args below meth c0 hA pc k hd hk lsA Hm locs hS kk => by
    obtain rfl := zk1 rfl hk
    exact lv_ior hA.1 hA.2.1 hd  (kk lsA Hm locs hS))
theorem zs_lor {p q : Int64} (ih : zRun X y n0 n c ls (.long (p ||| q) :: st) H P) : zRun X y n0 n ((.lor, x, a, b, v) :: c) ls (.long q :: .long p :: st) H P :=
  zs_of (by nofun) rfl ih (fun p9 e s m args below meth c0 hA pc k hd hk lsA Hm locs hS kk => by
    obtain rfl := zk1 rfl hk
    exact lv_lor hA.1 hA.2.1 hd  (kk lsA Hm locs hS))
theorem zs_ixor {p q : Int32} (ih : zRun X y n0 n c ls (.int (p ^^^ q) :: st) H P) : zRun X y n0 n ((.ixor, x, a, b, v) :: c) ls (.int q :: .int p :: st) H P :=
  zs_of (by nofun) rfl ih (fun p9 e s m args below meth c0 hA pc k hd hk lsA Hm locs hS kk => by
    obtain rfl := zk1 rfl hk
    exact lv_ixor hA.1 hA.2.1 hd  (kk lsA Hm locs hS))
theorem zs_lxor {p q : Int64} (ih : zRun X y n0 n c ls (.long (p ^^^ q) :: st) H P) : zRun X y n0 n ((.lxor, x, a, b, v) :: c) ls (.long q :: .long p :: st) H P :=
  zs_of (by nofun) rfl ih (fun p9 e s m args below meth c0 hA pc k hd hk lsA Hm locs hS kk => by
    obtain rfl := zk1 rfl hk
    exact lv_lxor hA.1 hA.2.1 hd  (kk lsA Hm locs hS))
theorem zs_idiv {p q : Int32} (hq : ¬ q = 0) (ih : zRun X y n0 n c ls (.int (p / q) :: st) H P) : zRun X y n0 n ((.idiv, x, a, b, v) :: c) ls (.int q :: .int p :: st) H P :=
  zs_of (by nofun) rfl ih (fun p9 e s m args below meth c0 hA pc k hd hk lsA Hm locs hS kk => by
    obtain rfl := zk1 rfl hk
    exact lv_idiv hA.1 hA.2.1 hd hq (kk lsA Hm locs hS))
theorem zs_irem {p q : Int32} (hq : ¬ q = 0) (ih : zRun X y n0 n c ls (.int (p - p / q * q) :: st) H P) : zRun X y n0 n ((.irem, x, a, b, v) :: c) ls (.int q :: .int p :: st) H P :=
  zs_of (by nofun) rfl ih (fun p9 e s m args below meth c0 hA pc k hd hk lsA Hm locs hS kk => by
    obtain rfl := zk1 rfl hk
    exact lv_irem hA.1 hA.2.1 hd hq (kk lsA Hm locs hS))
theorem zs_ishl {p q : Int32} (ih : zRun X y n0 n c ls (.int (p <<< (q &&& 31)) :: st) H P) : zRun X y n0 n ((.ishl, x, a, b, v) :: c) ls (.int q :: .int p :: st) H P :=
  zs_of (by nofun) rfl ih (fun p9 e s m args below meth c0 hA pc k hd hk lsA Hm locs hS kk => by
    obtain rfl := zk1 rfl hk
    exact lv_ishl hA.1 hA.2.1 hd  (kk lsA Hm locs hS))
theorem zs_ishr {p q : Int32} (ih : zRun X y n0 n c ls (.int (p >>> (q &&& 31)) :: st) H P) : zRun X y n0 n ((.ishr, x, a, b, v) :: c) ls (.int q :: .int p :: st) H P :=
  zs_of (by nofun) rfl ih (fun p9 e s m args below meth c0 hA pc k hd hk lsA Hm locs hS kk => by
    obtain rfl := zk1 rfl hk
    exact lv_ishr hA.1 hA.2.1 hd  (kk lsA Hm locs hS))
theorem zs_iushr {p q : Int32} (ih : zRun X y n0 n c ls (.int ((p.toUInt32 >>> (q.toUInt32 &&& Int32.toUInt32 31)).toInt32) :: st) H P) : zRun X y n0 n ((.iushr, x, a, b, v) :: c) ls (.int q :: .int p :: st) H P :=
  zs_of (by nofun) rfl ih (fun p9 e s m args below meth c0 hA pc k hd hk lsA Hm locs hS kk => by
    obtain rfl := zk1 rfl hk
    exact lv_iushr hA.1 hA.2.1 hd rfl (kk lsA Hm locs hS))
theorem zs_lshl {q : Int32} {p : Int64} (ih : zRun X y n0 n c ls (.long (p <<< (q.toInt64 &&& 63)) :: st) H P) : zRun X y n0 n ((.lshl, x, a, b, v) :: c) ls (.int q :: .long p :: st) H P :=
  zs_of (by nofun) rfl ih (fun p9 e s m args below meth c0 hA pc k hd hk lsA Hm locs hS kk => by
    obtain rfl := zk1 rfl hk
    exact lv_lshl hA.1 hA.2.1 hd rfl (kk lsA Hm locs hS))
theorem zs_lshr {q : Int32} {p : Int64} (ih : zRun X y n0 n c ls (.long (p >>> (q.toInt64 &&& 63)) :: st) H P) : zRun X y n0 n ((.lshr, x, a, b, v) :: c) ls (.int q :: .long p :: st) H P :=
  zs_of (by nofun) rfl ih (fun p9 e s m args below meth c0 hA pc k hd hk lsA Hm locs hS kk => by
    obtain rfl := zk1 rfl hk
    exact lv_lshr hA.1 hA.2.1 hd rfl (kk lsA Hm locs hS))
theorem zs_lushr {q : Int32} {p : Int64} (ih : zRun X y n0 n c ls (.long ((p.toUInt64 >>> (q.toInt64.toUInt64 &&& Int64.toUInt64 63)).toInt64) :: st) H P) : zRun X y n0 n ((.lushr, x, a, b, v) :: c) ls (.int q :: .long p :: st) H P :=
  zs_of (by nofun) rfl ih (fun p9 e s m args below meth c0 hA pc k hd hk lsA Hm locs hS kk => by
    obtain rfl := zk1 rfl hk
    exact lv_lushr hA.1 hA.2.1 hd rfl (kk lsA Hm locs hS))
theorem zs_i2l {q : Int32} (ih : zRun X y n0 n c ls (.long q.toInt64 :: st) H P) : zRun X y n0 n ((.i2l, x, a, b, v) :: c) ls (.int q :: st) H P :=
  zs_of (by nofun) rfl ih (fun p9 e s m args below meth c0 hA pc k hd hk lsA Hm locs hS kk => by
    obtain rfl := zk1 rfl hk
    exact lv_i2l hA.1 hA.2.1 hd rfl (kk lsA Hm locs hS))
theorem zs_l2i {q : Int64} (ih : zRun X y n0 n c ls (.int q.toInt32 :: st) H P) : zRun X y n0 n ((.l2i, x, a, b, v) :: c) ls (.long q :: st) H P :=
  zs_of (by nofun) rfl ih (fun p9 e s m args below meth c0 hA pc k hd hk lsA Hm locs hS kk => by
    obtain rfl := zk1 rfl hk
    exact lv_l2i hA.1 hA.2.1 hd rfl (kk lsA Hm locs hS))
theorem zs_i2b {q : Int32} (ih : zRun X y n0 n c ls (.int q.toInt8.toInt32 :: st) H P) : zRun X y n0 n ((.i2b, x, a, b, v) :: c) ls (.int q :: st) H P :=
  zs_of (by nofun) rfl ih (fun p9 e s m args below meth c0 hA pc k hd hk lsA Hm locs hS kk => by
    obtain rfl := zk1 rfl hk
    exact lv_i2b hA.1 hA.2.1 hd rfl (kk lsA Hm locs hS))
theorem zs_lcmp {p q : Int64} (ih : zRun X y n0 n c ls (.int (lg_cmp p q) :: st) H P) : zRun X y n0 n ((.lcmp, x, a, b, v) :: c) ls (.long q :: .long p :: st) H P :=
  zs_of (by nofun) rfl ih (fun p9 e s m args below meth c0 hA pc k hd hk lsA Hm locs hS kk => by
    obtain rfl := zk1 rfl hk
    exact W.lcmp hA.1 hA.2.1 hd  (kk lsA Hm locs hS))
theorem zs_dupi {q : Int32} (ih : zRun X y n0 n c ls (.int q :: .int q :: st) H P) : zRun X y n0 n ((.dup, x, a, b, v) :: c) ls (.int q :: st) H P :=
  zs_of (by nofun) rfl ih (fun p9 e s m args below meth c0 hA pc k hd hk lsA Hm locs hS kk => by
    obtain rfl := zk1 rfl hk
    exact lv_dup hA.1 hA.2.1 hd rfl (kk lsA Hm locs hS))
theorem zs_dupr {q : Nat} (ih : zRun X y n0 n c ls (.ref q :: .ref q :: st) H P) : zRun X y n0 n ((.dup, x, a, b, v) :: c) ls (.ref q :: st) H P :=
  zs_of (by nofun) rfl ih (fun p9 e s m args below meth c0 hA pc k hd hk lsA Hm locs hS kk => by
    obtain rfl := zk1 rfl hk
    exact lv_dup hA.1 hA.2.1 hd rfl (kk lsA Hm locs hS))
theorem zs_dup2 {q : Int32} {p : Nat} (ih : zRun X y n0 n c ls (.int q :: .ref p :: .int q :: .ref p :: st) H P) : zRun X y n0 n ((.dup2, x, a, b, v) :: c) ls (.int q :: .ref p :: st) H P :=
  zs_of (by nofun) rfl ih (fun p9 e s m args below meth c0 hA pc k hd hk lsA Hm locs hS kk => by
    obtain rfl := zk1 rfl hk
    exact lv_dup2_11 hA.1 hA.2.1 hd rfl rfl (kk lsA Hm locs hS))
theorem zs_iconst {k0 : Int} (ih : zRun X y n0 n c ls (.int (zkI x a) :: st) H P) : zRun X y n0 n ((.iconst k0, x, a, b, v) :: c) ls st H P :=
  zs_of (by nofun) rfl ih (fun p9 e s m args below meth c0 hA pc k hd hk lsA Hm locs hS kk => by
    have hk2 : (Int32.ofInt k0 = zkI x a) ∧ k = 1 := by simpa [zok] using hk
    obtain ⟨h1, rfl⟩ := hk2
    exact lv_iconst hA.1 hA.2.1 hd h1 (kk lsA Hm locs hS))
theorem zs_bipush {k0 : Int} (ih : zRun X y n0 n c ls (.int (zkI x a) :: st) H P) : zRun X y n0 n ((.bipush k0, x, a, b, v) :: c) ls st H P :=
  zs_of (by nofun) rfl ih (fun p9 e s m args below meth c0 hA pc k hd hk lsA Hm locs hS kk => by
    have hk2 : ((Int8.ofInt k0).toInt32 = zkI x a) ∧ k = 2 := by simpa [zok] using hk
    obtain ⟨h1, rfl⟩ := hk2
    exact lv_bipush hA.1 hA.2.1 hd h1 (kk lsA Hm locs hS))
theorem zs_sipush {k0 : Int} (ih : zRun X y n0 n c ls (.int (zkI x a) :: st) H P) : zRun X y n0 n ((.sipush k0, x, a, b, v) :: c) ls st H P :=
  zs_of (by nofun) rfl ih (fun p9 e s m args below meth c0 hA pc k hd hk lsA Hm locs hS kk => by
    have hk2 : ((Int16.ofInt k0).toInt32 = zkI x a) ∧ k = 3 := by simpa [zok] using hk
    obtain ⟨h1, rfl⟩ := hk2
    exact lv_sipush hA.1 hA.2.1 hd h1 (kk lsA Hm locs hS))
theorem zs_lconst {k0 : Fin 2} (ih : zRun X y n0 n c ls (.long (zkL x a) :: st) H P) : zRun X y n0 n ((.lconst k0, x, a, b, v) :: c) ls st H P :=
  zs_of (by nofun) rfl ih (fun p9 e s m args below meth c0 hA pc k hd hk lsA Hm locs hS kk => by
    have hk2 : (Int64.ofNat (k0 : Nat) = zkL x a) ∧ k = 1 := by simpa [zok] using hk
    obtain ⟨h1, rfl⟩ := hk2
    exact lv_lconst hA.1 hA.2.1 hd h1 (kk lsA Hm locs hS))
theorem zs_ldc_w {k0 : Nat} (ih : zRun X y n0 n c ls (.int (zkI x a) :: st) H P) : zRun X y n0 n ((.ldc_w k0, x, a, b, v) :: c) ls st H P :=
  zs_of (by nofun) rfl ih (fun p9 e s m args below meth c0 hA pc k hd hk lsA Hm locs hS kk => by
    have hk2 : zwd b (.constant (zyN y).cls k0 (zkI x a)) = true ∧ k = 3 := by simpa [zok] using hk
    obtain ⟨h1, rfl⟩ := hk2
    exact lv_ldcw hA.1 hA.2.1 hA.2.2.2.2.2.1 (hA.2.2.2.2.1 _ (zwd_mem h1)) hd (kk lsA Hm locs hS))
theorem zs_ldc2_w {k0 : Nat} (ih : zRun X y n0 n c ls (.long (zkL x a) :: st) H P) : zRun X y n0 n ((.ldc2_w k0, x, a, b, v) :: c) ls st H P :=
  zs_of (by nofun) rfl ih (fun p9 e s m args below meth c0 hA pc k hd hk lsA Hm locs hS kk => by
    have hk2 : zwd b (.constantLong (zyN y).cls k0 (zkL x a)) = true ∧ k = 3 := by simpa [zok] using hk
    obtain ⟨h1, rfl⟩ := hk2
    exact lv_ldc2 hA.1 hA.2.1 hA.2.2.2.2.2.1 (hA.2.2.2.2.1 _ (zwd_mem h1)) hd (kk lsA Hm locs hS))
theorem zs_iload {k0 : Nat} (hi : zisI (zlg ls k0)) (ih : zRun X y n0 n c ls (zlg ls k0 :: st) H P) : zRun X y n0 n ((.iload k0, x, a, b, v) :: c) ls st H P :=
  zs_of (by nofun) rfl ih (fun p9 e s m args below meth c0 hA pc k hd hk lsA Hm locs hS kk => by
    have hk2 : k = 2 := by simpa [zok] using hk
    obtain rfl := hk2
    obtain ⟨q, hq⟩ : ∃ q, zlg ls k0 = .int q := by
      cases hz : zlg ls k0 <;> rw [hz] at hi <;> first | exact ⟨_, rfl⟩ | exact hi.elim
    have h1 := zlR_get hS.1 hq (by nofun)
    rw [hq] at kk
    exact lv_iload hA.1 hA.2.1 hd h1 (kk lsA Hm locs hS))
theorem zs_iload_n {k0 : Fin 4} (hi : zisI (zlg ls k0)) (ih : zRun X y n0 n c ls (zlg ls k0 :: st) H P) : zRun X y n0 n ((.iload_n k0, x, a, b, v) :: c) ls st H P :=
  zs_of (by nofun) rfl ih (fun p9 e s m args below meth c0 hA pc k hd hk lsA Hm locs hS kk => by
    have hk2 : k = 1 := by simpa [zok] using hk
    obtain rfl := hk2
    obtain ⟨q, hq⟩ : ∃ q, zlg ls k0 = .int q := by
      cases hz : zlg ls k0 <;> rw [hz] at hi <;> first | exact ⟨_, rfl⟩ | exact hi.elim
    have h1 := zlR_get hS.1 hq (by nofun)
    rw [hq] at kk
    exact lv_iload_n hA.1 hA.2.1 hd rfl h1 (kk lsA Hm locs hS))
theorem zs_lload {k0 : Nat} (hi : zisL (zlg ls k0)) (ih : zRun X y n0 n c ls (zlg ls k0 :: st) H P) : zRun X y n0 n ((.lload k0, x, a, b, v) :: c) ls st H P :=
  zs_of (by nofun) rfl ih (fun p9 e s m args below meth c0 hA pc k hd hk lsA Hm locs hS kk => by
    have hk2 : k = 2 := by simpa [zok] using hk
    obtain rfl := hk2
    obtain ⟨q, hq⟩ : ∃ q, zlg ls k0 = .long q := by
      cases hz : zlg ls k0 <;> rw [hz] at hi <;> first | exact ⟨_, rfl⟩ | exact hi.elim
    have h1 := zlR_get hS.1 hq (by nofun)
    rw [hq] at kk
    exact lv_lload hA.1 hA.2.1 hd h1 (kk lsA Hm locs hS))
theorem zs_lload_n {k0 : Fin 4} (hi : zisL (zlg ls k0)) (ih : zRun X y n0 n c ls (zlg ls k0 :: st) H P) : zRun X y n0 n ((.lload_n k0, x, a, b, v) :: c) ls st H P :=
  zs_of (by nofun) rfl ih (fun p9 e s m args below meth c0 hA pc k hd hk lsA Hm locs hS kk => by
    have hk2 : k = 1 := by simpa [zok] using hk
    obtain rfl := hk2
    obtain ⟨q, hq⟩ : ∃ q, zlg ls k0 = .long q := by
      cases hz : zlg ls k0 <;> rw [hz] at hi <;> first | exact ⟨_, rfl⟩ | exact hi.elim
    have h1 := zlR_get hS.1 hq (by nofun)
    rw [hq] at kk
    exact lv_lload_n hA.1 hA.2.1 hd rfl h1 (kk lsA Hm locs hS))
theorem zs_aload {k0 : Nat} (hi : zisR (zlg ls k0)) (ih : zRun X y n0 n c ls (zlg ls k0 :: st) H P) : zRun X y n0 n ((.aload k0, x, a, b, v) :: c) ls st H P :=
  zs_of (by nofun) rfl ih (fun p9 e s m args below meth c0 hA pc k hd hk lsA Hm locs hS kk => by
    have hk2 : k = 2 := by simpa [zok] using hk
    obtain rfl := hk2
    obtain ⟨q, hq⟩ : ∃ q, zlg ls k0 = .ref q := by
      cases hz : zlg ls k0 <;> rw [hz] at hi <;> first | exact ⟨_, rfl⟩ | exact hi.elim
    have h1 := zlR_get hS.1 hq (by nofun)
    rw [hq] at kk
    exact lv_aload hA.1 hA.2.1 hd h1 (kk lsA Hm locs hS))
theorem zs_aload_n {k0 : Fin 4} (hi : zisR (zlg ls k0)) (ih : zRun X y n0 n c ls (zlg ls k0 :: st) H P) : zRun X y n0 n ((.aload_n k0, x, a, b, v) :: c) ls st H P :=
  zs_of (by nofun) rfl ih (fun p9 e s m args below meth c0 hA pc k hd hk lsA Hm locs hS kk => by
    have hk2 : k = 1 := by simpa [zok] using hk
    obtain rfl := hk2
    obtain ⟨q, hq⟩ : ∃ q, zlg ls k0 = .ref q := by
      cases hz : zlg ls k0 <;> rw [hz] at hi <;> first | exact ⟨_, rfl⟩ | exact hi.elim
    have h1 := zlR_get hS.1 hq (by nofun)
    rw [hq] at kk
    exact lv_aload_n hA.1 hA.2.1 hd rfl h1 (kk lsA Hm locs hS))
theorem zs_istore {k0 : Nat} {q : Int32} (ih : zRun X y n0 n c (zs1 ls k0 (.int q)) st H P) : zRun X y n0 n ((.istore k0, x, a, b, v) :: c) ls (.int q :: st) H P :=
  zs_of (by nofun) rfl ih (fun p9 e s m args below meth c0 hA pc k hd hk lsA Hm locs hS kk => by
    have hk2 : k0 < zmL y ∧ k = 2 := by simpa [zok] using hk
    obtain ⟨h1, rfl⟩ := hk2
    obtain ⟨⟨lv, g1, g2⟩, g3⟩ := hS
    exact lv_istore hA.1 hA.2.1 hd g1 h1 rfl (fun ls' hl => kk ls' Hm locs ⟨zlR_s1 g2 hl, g3⟩))
theorem zs_istore_n {k0 : Fin 4} {q : Int32} (ih : zRun X y n0 n c (zs1 ls k0 (.int q)) st H P) : zRun X y n0 n ((.istore_n k0, x, a, b, v) :: c) ls (.int q :: st) H P :=
  zs_of (by nofun) rfl ih (fun p9 e s m args below meth c0 hA pc k hd hk lsA Hm locs hS kk => by
    have hk2 : (k0 : Nat) < zmL y ∧ k = 1 := by simpa [zok] using hk
    obtain ⟨h1, rfl⟩ := hk2
    obtain ⟨⟨lv, g1, g2⟩, g3⟩ := hS
    exact lv_istore_n hA.1 hA.2.1 hd rfl g1 h1 rfl (fun ls' hl => kk ls' Hm locs ⟨zlR_s1 g2 hl, g3⟩))
theorem zs_astore {k0 : Nat} {q : Nat} (ih : zRun X y n0 n c (zs1 ls k0 (.ref q)) st H P) : zRun X y n0 n ((.astore k0, x, a, b, v) :: c) ls (.ref q :: st) H P :=
  zs_of (by nofun) rfl ih (fun p9 e s m args below meth c0 hA pc k hd hk lsA Hm locs hS kk => by
    have hk2 : k0 < zmL y ∧ k = 2 := by simpa [zok] using hk
    obtain ⟨h1, rfl⟩ := hk2
    obtain ⟨⟨lv, g1, g2⟩, g3⟩ := hS
    exact lv_astore hA.1 hA.2.1 hd g1 h1 rfl (fun ls' hl => kk ls' Hm locs ⟨zlR_s1 g2 hl, g3⟩))
theorem zs_astore_n {k0 : Fin 4} {q : Nat} (ih : zRun X y n0 n c (zs1 ls k0 (.ref q)) st H P) : zRun X y n0 n ((.astore_n k0, x, a, b, v) :: c) ls (.ref q :: st) H P :=
  zs_of (by nofun) rfl ih (fun p9 e s m args below meth c0 hA pc k hd hk lsA Hm locs hS kk => by
    have hk2 : (k0 : Nat) < zmL y ∧ k = 1 := by simpa [zok] using hk
    obtain ⟨h1, rfl⟩ := hk2
    obtain ⟨⟨lv, g1, g2⟩, g3⟩ := hS
    exact lv_astore_n hA.1 hA.2.1 hd rfl g1 h1 rfl (fun ls' hl => kk ls' Hm locs ⟨zlR_s1 g2 hl, g3⟩))
theorem zs_lstore {k0 : Nat} {q : Int64} (ih : zRun X y n0 n c (zs2 ls k0 (.long q)) st H P) : zRun X y n0 n ((.lstore k0, x, a, b, v) :: c) ls (.long q :: st) H P :=
  zs_of (by nofun) rfl ih (fun p9 e s m args below meth c0 hA pc k hd hk lsA Hm locs hS kk => by
    have hk2 : k0 + 1 < zmL y ∧ k = 2 := by simpa [zok] using hk
    obtain ⟨h1, rfl⟩ := hk2
    obtain ⟨⟨lv, g1, g2⟩, g3⟩ := hS
    exact lv_lstore hA.1 hA.2.1 hd g1 h1 rfl (fun ls' hl => kk ls' Hm locs ⟨zlR_s2 g2 hl, g3⟩))
theorem zs_lstore_n {k0 : Fin 4} {q : Int64} (ih : zRun X y n0 n c (zs2 ls k0 (.long q)) st H P) : zRun X y n0 n ((.lstore_n k0, x, a, b, v) :: c) ls (.long q :: st) H P :=
  zs_of (by nofun) rfl ih (fun p9 e s m args below meth c0 hA pc k hd hk lsA Hm locs hS kk => by
    have hk2 : (k0 : Nat) + 1 < zmL y ∧ k = 1 := by simpa [zok] using hk
    obtain ⟨h1, rfl⟩ := hk2
    obtain ⟨⟨lv, g1, g2⟩, g3⟩ := hS
    exact lv_lstore_n hA.1 hA.2.1 hd rfl g1 h1 rfl (fun ls' hl => kk ls' Hm locs ⟨zlR_s2 g2 hl, g3⟩))
theorem zs_iinc {k0 : Nat} {d : Int} {q : Int32} (hq : zlg ls k0 = .int q) (ih : zRun X y n0 n c (zs1 ls k0 (.int (q + Int32.ofInt d))) st H P) : zRun X y n0 n ((.iinc k0 d, x, a, b, v) :: c) ls st H P :=
  zs_of (by nofun) rfl ih (fun p9 e s m args below meth c0 hA pc k hd hk lsA Hm locs hS kk => by
    have hk2 : k0 < zmL y ∧ k = 3 := by simpa [zok] using hk
    obtain ⟨h1, rfl⟩ := hk2
    obtain ⟨⟨lv, g1, g2⟩, g3⟩ := hS
    obtain ⟨j, hj⟩ := List.getElem?_of_mem (g2 k0 (by rw [hq]; nofun))
    rw [hq] at hj
    exact lv_iinc hA.1 hA.2.1 hd g1 hj rfl h1 rfl (fun ls' hl => kk ls' Hm locs ⟨zlR_s1 g2 hl, g3⟩))
theorem zat_blk {t : Nat} (hm : zmt y = true) (ht : zst y t < 999999) : zat (zst y) y (zst y t) (blk y t) = true := by
  have h := List.all_eq_true.mp hm t (List.mem_range.mpr ?_)
  · exact h
  · refine Nat.not_le.mp fun q => ?_
    have q2 : (sTl[y]?.getD []).length ≤ t := by simpa [List.getD_eq_getElem?_getD] using q
    have : zst y t = 999999 := by simp [zst, List.getD_eq_getElem?_getD, List.getElem?_eq_none q2]
    omega
theorem zoff_ok {st : Nat → Nat} {pc t : Nat} {off : Int} (h : zoff st pc off t = true) : (pc : Int) + off = (st t : Int) ∧ st t < 999999 := by
  simpa [zoff] using h
theorem zs_nop (ih : zRun X y n0 n (blk y x) ls st H P) : zRun X y n0 n ((.nop, x, a, b, v) :: c) ls st H P := by
  intro hm p9 e s m args below meth c0 hA pc hat lsA Hm locs hS
  obtain ⟨h1, h2⟩ := zat_nop hat
  subst h1
  exact ih hm p9 e s m args below meth c0 hA (zst y x) (zat_blk hm h2) lsA Hm locs hS
theorem zs_goto {off : Int} (ih : zRun X y n0 n (blk y x) ls st H P) : zRun X y n0 n ((.goto off, x, a, b, v) :: c) ls st H P := by
  intro hm p9 e s m args below meth c0 hA pc hat lsA Hm locs hS
  obtain ⟨k, hd, hk, -⟩ := zat_cons (by nofun) hat
  have hk2 : zoff (zst y) pc off x = true ∧ k = 3 := by simpa [zok] using hk
  obtain ⟨h1, rfl⟩ := hk2
  obtain ⟨h3, h4⟩ := zoff_ok h1
  exact lv_goto hA.1 hA.2.1 hd h3 (ih hm p9 e s m args below meth c0 hA (zst y x) (zat_blk hm h4) lsA Hm locs hS)
theorem zs_if_eq {q : Int32} {off : Int} (h1 : q = nI 0 → zRun X y n0 n (blk y x) ls st H P) (h2 : ¬ (q = nI 0) → zRun X y n0 n c ls st H P) : zRun X y n0 n ((.ifCond .eq off, x, a, b, v) :: c) ls (.int q :: st) H P := by
  intro hm p9 e s m args below meth c0 hA pc hat lsA Hm locs hS
  obtain ⟨k, hd, hk, hc⟩ := zat_cons (by nofun) hat
  have hk2 : zoff (zst y) pc off x = true ∧ k = 3 := by simpa [zok] using hk
  obtain ⟨g1, rfl⟩ := hk2
  obtain ⟨g3, g4⟩ := zoff_ok g1
  (try rw [nI_0] at h1 h2)
  have J : zRun X y n0 n (blk y x) ls st H P → zGo X y n0 n P p9 e s m args below meth c0 (zst y x) lsA st Hm locs := fun ih => ih hm p9 e s m args below meth c0 hA (zst y x) (zat_blk hm g4) lsA Hm locs hS
  have N : zRun X y n0 n c ls st H P → zGo X y n0 n P p9 e s m args below meth c0 (pc + 3) lsA st Hm locs := fun ih => ih hm p9 e s m args below meth c0 hA (pc + 3) (hc rfl) lsA Hm locs hS
  exact lv_if_eq hA.1 hA.2.1 hd g3 (fun hh => J (h1 hh)) (fun hh => N (h2 hh))
theorem zs_if_ne {q : Int32} {off : Int} (h1 : q = nI 0 → zRun X y n0 n c ls st H P) (h2 : ¬ (q = nI 0) → zRun X y n0 n (blk y x) ls st H P) : zRun X y n0 n ((.ifCond .ne off, x, a, b, v) :: c) ls (.int q :: st) H P := by
  intro hm p9 e s m args below meth c0 hA pc hat lsA Hm locs hS
  obtain ⟨k, hd, hk, hc⟩ := zat_cons (by nofun) hat
  have hk2 : zoff (zst y) pc off x = true ∧ k = 3 := by simpa [zok] using hk
  obtain ⟨g1, rfl⟩ := hk2
  obtain ⟨g3, g4⟩ := zoff_ok g1
  (try rw [nI_0] at h1 h2)
  have J : zRun X y n0 n (blk y x) ls st H P → zGo X y n0 n P p9 e s m args below meth c0 (zst y x) lsA st Hm locs := fun ih => ih hm p9 e s m args below meth c0 hA (zst y x) (zat_blk hm g4) lsA Hm locs hS
  have N : zRun X y n0 n c ls st H P → zGo X y n0 n P p9 e s m args below meth c0 (pc + 3) lsA st Hm locs := fun ih => ih hm p9 e s m args below meth c0 hA (pc + 3) (hc rfl) lsA Hm locs hS
  exact lv_if_ne hA.1 hA.2.1 hd g3 (fun hh => J (h2 hh)) (fun hh => N (h1 hh))
theorem zs_if_lt {q : Int32} {off : Int} (h1 : q < nI 0 → zRun X y n0 n (blk y x) ls st H P) (h2 : ¬ (q < nI 0) → zRun X y n0 n c ls st H P) : zRun X y n0 n ((.ifCond .lt off, x, a, b, v) :: c) ls (.int q :: st) H P := by
  intro hm p9 e s m args below meth c0 hA pc hat lsA Hm locs hS
  obtain ⟨k, hd, hk, hc⟩ := zat_cons (by nofun) hat
  have hk2 : zoff (zst y) pc off x = true ∧ k = 3 := by simpa [zok] using hk
  obtain ⟨g1, rfl⟩ := hk2
  obtain ⟨g3, g4⟩ := zoff_ok g1
  (try rw [nI_0] at h1 h2)
  have J : zRun X y n0 n (blk y x) ls st H P → zGo X y n0 n P p9 e s m args below meth c0 (zst y x) lsA st Hm locs := fun ih => ih hm p9 e s m args below meth c0 hA (zst y x) (zat_blk hm g4) lsA Hm locs hS
  have N : zRun X y n0 n c ls st H P → zGo X y n0 n P p9 e s m args below meth c0 (pc + 3) lsA st Hm locs := fun ih => ih hm p9 e s m args below meth c0 hA (pc + 3) (hc rfl) lsA Hm locs hS
  exact lv_if_lt hA.1 hA.2.1 hd g3 (fun hh => J (h1 hh)) (fun hh => N (h2 hh))
theorem zs_if_ge {q : Int32} {off : Int} (h1 : q < nI 0 → zRun X y n0 n c ls st H P) (h2 : ¬ (q < nI 0) → zRun X y n0 n (blk y x) ls st H P) : zRun X y n0 n ((.ifCond .ge off, x, a, b, v) :: c) ls (.int q :: st) H P := by
  intro hm p9 e s m args below meth c0 hA pc hat lsA Hm locs hS
  obtain ⟨k, hd, hk, hc⟩ := zat_cons (by nofun) hat
  have hk2 : zoff (zst y) pc off x = true ∧ k = 3 := by simpa [zok] using hk
  obtain ⟨g1, rfl⟩ := hk2
  obtain ⟨g3, g4⟩ := zoff_ok g1
  (try rw [nI_0] at h1 h2)
  have J : zRun X y n0 n (blk y x) ls st H P → zGo X y n0 n P p9 e s m args below meth c0 (zst y x) lsA st Hm locs := fun ih => ih hm p9 e s m args below meth c0 hA (zst y x) (zat_blk hm g4) lsA Hm locs hS
  have N : zRun X y n0 n c ls st H P → zGo X y n0 n P p9 e s m args below meth c0 (pc + 3) lsA st Hm locs := fun ih => ih hm p9 e s m args below meth c0 hA (pc + 3) (hc rfl) lsA Hm locs hS
  exact lv_if_ge hA.1 hA.2.1 hd g3 (fun hh => J (h2 (Int32.not_lt.mpr hh))) (fun hh => N (h1 (Int32.not_le.mp hh)))
theorem zs_if_gt {q : Int32} {off : Int} (h1 : q ≤ nI 0 → zRun X y n0 n c ls st H P) (h2 : ¬ (q ≤ nI 0) → zRun X y n0 n (blk y x) ls st H P) : zRun X y n0 n ((.ifCond .gt off, x, a, b, v) :: c) ls (.int q :: st) H P := by
  intro hm p9 e s m args below meth c0 hA pc hat lsA Hm locs hS
  obtain ⟨k, hd, hk, hc⟩ := zat_cons (by nofun) hat
  have hk2 : zoff (zst y) pc off x = true ∧ k = 3 := by simpa [zok] using hk
  obtain ⟨g1, rfl⟩ := hk2
  obtain ⟨g3, g4⟩ := zoff_ok g1
  (try rw [nI_0] at h1 h2)
  have J : zRun X y n0 n (blk y x) ls st H P → zGo X y n0 n P p9 e s m args below meth c0 (zst y x) lsA st Hm locs := fun ih => ih hm p9 e s m args below meth c0 hA (zst y x) (zat_blk hm g4) lsA Hm locs hS
  have N : zRun X y n0 n c ls st H P → zGo X y n0 n P p9 e s m args below meth c0 (pc + 3) lsA st Hm locs := fun ih => ih hm p9 e s m args below meth c0 hA (pc + 3) (hc rfl) lsA Hm locs hS
  exact lv_if_gt hA.1 hA.2.1 hd g3 (fun hh => J (h2 (Int32.not_le.mpr hh))) (fun hh => N (h1 (Int32.not_lt.mp hh)))
theorem zs_if_le {q : Int32} {off : Int} (h1 : q ≤ nI 0 → zRun X y n0 n (blk y x) ls st H P) (h2 : ¬ (q ≤ nI 0) → zRun X y n0 n c ls st H P) : zRun X y n0 n ((.ifCond .le off, x, a, b, v) :: c) ls (.int q :: st) H P := by
  intro hm p9 e s m args below meth c0 hA pc hat lsA Hm locs hS
  obtain ⟨k, hd, hk, hc⟩ := zat_cons (by nofun) hat
  have hk2 : zoff (zst y) pc off x = true ∧ k = 3 := by simpa [zok] using hk
  obtain ⟨g1, rfl⟩ := hk2
  obtain ⟨g3, g4⟩ := zoff_ok g1
  (try rw [nI_0] at h1 h2)
  have J : zRun X y n0 n (blk y x) ls st H P → zGo X y n0 n P p9 e s m args below meth c0 (zst y x) lsA st Hm locs := fun ih => ih hm p9 e s m args below meth c0 hA (zst y x) (zat_blk hm g4) lsA Hm locs hS
  have N : zRun X y n0 n c ls st H P → zGo X y n0 n P p9 e s m args below meth c0 (pc + 3) lsA st Hm locs := fun ih => ih hm p9 e s m args below meth c0 hA (pc + 3) (hc rfl) lsA Hm locs hS
  exact lv_if_le hA.1 hA.2.1 hd g3 (fun hh => J (h1 hh)) (fun hh => N (h2 hh))
theorem zs_icmp_eq {p q : Int32} {off : Int} (h1 : p = q → zRun X y n0 n (blk y x) ls st H P) (h2 : ¬ (p = q) → zRun X y n0 n c ls st H P) : zRun X y n0 n ((.if_icmp .eq off, x, a, b, v) :: c) ls (.int q :: .int p :: st) H P := by
  intro hm p9 e s m args below meth c0 hA pc hat lsA Hm locs hS
  obtain ⟨k, hd, hk, hc⟩ := zat_cons (by nofun) hat
  have hk2 : zoff (zst y) pc off x = true ∧ k = 3 := by simpa [zok] using hk
  obtain ⟨g1, rfl⟩ := hk2
  obtain ⟨g3, g4⟩ := zoff_ok g1
  (try rw [nI_0] at h1 h2)
  have J : zRun X y n0 n (blk y x) ls st H P → zGo X y n0 n P p9 e s m args below meth c0 (zst y x) lsA st Hm locs := fun ih => ih hm p9 e s m args below meth c0 hA (zst y x) (zat_blk hm g4) lsA Hm locs hS
  have N : zRun X y n0 n c ls st H P → zGo X y n0 n P p9 e s m args below meth c0 (pc + 3) lsA st Hm locs := fun ih => ih hm p9 e s m args below meth c0 hA (pc + 3) (hc rfl) lsA Hm locs hS
  exact lv_icmp_eq hA.1 hA.2.1 hd g3 (fun hh => J (h1 hh)) (fun hh => N (h2 hh))
theorem zs_icmp_ne {p q : Int32} {off : Int} (h1 : p = q → zRun X y n0 n c ls st H P) (h2 : ¬ (p = q) → zRun X y n0 n (blk y x) ls st H P) : zRun X y n0 n ((.if_icmp .ne off, x, a, b, v) :: c) ls (.int q :: .int p :: st) H P := by
  intro hm p9 e s m args below meth c0 hA pc hat lsA Hm locs hS
  obtain ⟨k, hd, hk, hc⟩ := zat_cons (by nofun) hat
  have hk2 : zoff (zst y) pc off x = true ∧ k = 3 := by simpa [zok] using hk
  obtain ⟨g1, rfl⟩ := hk2
  obtain ⟨g3, g4⟩ := zoff_ok g1
  (try rw [nI_0] at h1 h2)
  have J : zRun X y n0 n (blk y x) ls st H P → zGo X y n0 n P p9 e s m args below meth c0 (zst y x) lsA st Hm locs := fun ih => ih hm p9 e s m args below meth c0 hA (zst y x) (zat_blk hm g4) lsA Hm locs hS
  have N : zRun X y n0 n c ls st H P → zGo X y n0 n P p9 e s m args below meth c0 (pc + 3) lsA st Hm locs := fun ih => ih hm p9 e s m args below meth c0 hA (pc + 3) (hc rfl) lsA Hm locs hS
  exact lv_icmp_ne hA.1 hA.2.1 hd g3 (fun hh => J (h2 hh)) (fun hh => N (h1 hh))
theorem zs_icmp_lt {p q : Int32} {off : Int} (h1 : p < q → zRun X y n0 n (blk y x) ls st H P) (h2 : ¬ (p < q) → zRun X y n0 n c ls st H P) : zRun X y n0 n ((.if_icmp .lt off, x, a, b, v) :: c) ls (.int q :: .int p :: st) H P := by
  intro hm p9 e s m args below meth c0 hA pc hat lsA Hm locs hS
  obtain ⟨k, hd, hk, hc⟩ := zat_cons (by nofun) hat
  have hk2 : zoff (zst y) pc off x = true ∧ k = 3 := by simpa [zok] using hk
  obtain ⟨g1, rfl⟩ := hk2
  obtain ⟨g3, g4⟩ := zoff_ok g1
  (try rw [nI_0] at h1 h2)
  have J : zRun X y n0 n (blk y x) ls st H P → zGo X y n0 n P p9 e s m args below meth c0 (zst y x) lsA st Hm locs := fun ih => ih hm p9 e s m args below meth c0 hA (zst y x) (zat_blk hm g4) lsA Hm locs hS
  have N : zRun X y n0 n c ls st H P → zGo X y n0 n P p9 e s m args below meth c0 (pc + 3) lsA st Hm locs := fun ih => ih hm p9 e s m args below meth c0 hA (pc + 3) (hc rfl) lsA Hm locs hS
  exact lv_icmp_lt hA.1 hA.2.1 hd g3 (fun hh => J (h1 hh)) (fun hh => N (h2 hh))
theorem zs_icmp_ge {p q : Int32} {off : Int} (h1 : p < q → zRun X y n0 n c ls st H P) (h2 : ¬ (p < q) → zRun X y n0 n (blk y x) ls st H P) : zRun X y n0 n ((.if_icmp .ge off, x, a, b, v) :: c) ls (.int q :: .int p :: st) H P := by
  intro hm p9 e s m args below meth c0 hA pc hat lsA Hm locs hS
  obtain ⟨k, hd, hk, hc⟩ := zat_cons (by nofun) hat
  have hk2 : zoff (zst y) pc off x = true ∧ k = 3 := by simpa [zok] using hk
  obtain ⟨g1, rfl⟩ := hk2
  obtain ⟨g3, g4⟩ := zoff_ok g1
  (try rw [nI_0] at h1 h2)
  have J : zRun X y n0 n (blk y x) ls st H P → zGo X y n0 n P p9 e s m args below meth c0 (zst y x) lsA st Hm locs := fun ih => ih hm p9 e s m args below meth c0 hA (zst y x) (zat_blk hm g4) lsA Hm locs hS
  have N : zRun X y n0 n c ls st H P → zGo X y n0 n P p9 e s m args below meth c0 (pc + 3) lsA st Hm locs := fun ih => ih hm p9 e s m args below meth c0 hA (pc + 3) (hc rfl) lsA Hm locs hS
  exact lv_icmp_ge hA.1 hA.2.1 hd g3 (fun hh => J (h2 (Int32.not_lt.mpr hh))) (fun hh => N (h1 (Int32.not_le.mp hh)))
theorem zs_icmp_gt {p q : Int32} {off : Int} (h1 : p ≤ q → zRun X y n0 n c ls st H P) (h2 : ¬ (p ≤ q) → zRun X y n0 n (blk y x) ls st H P) : zRun X y n0 n ((.if_icmp .gt off, x, a, b, v) :: c) ls (.int q :: .int p :: st) H P := by
  intro hm p9 e s m args below meth c0 hA pc hat lsA Hm locs hS
  obtain ⟨k, hd, hk, hc⟩ := zat_cons (by nofun) hat
  have hk2 : zoff (zst y) pc off x = true ∧ k = 3 := by simpa [zok] using hk
  obtain ⟨g1, rfl⟩ := hk2
  obtain ⟨g3, g4⟩ := zoff_ok g1
  (try rw [nI_0] at h1 h2)
  have J : zRun X y n0 n (blk y x) ls st H P → zGo X y n0 n P p9 e s m args below meth c0 (zst y x) lsA st Hm locs := fun ih => ih hm p9 e s m args below meth c0 hA (zst y x) (zat_blk hm g4) lsA Hm locs hS
  have N : zRun X y n0 n c ls st H P → zGo X y n0 n P p9 e s m args below meth c0 (pc + 3) lsA st Hm locs := fun ih => ih hm p9 e s m args below meth c0 hA (pc + 3) (hc rfl) lsA Hm locs hS
  exact lv_icmp_gt hA.1 hA.2.1 hd g3 (fun hh => J (h2 (Int32.not_le.mpr hh))) (fun hh => N (h1 (Int32.not_lt.mp hh)))
theorem zs_icmp_le {p q : Int32} {off : Int} (h1 : p ≤ q → zRun X y n0 n (blk y x) ls st H P) (h2 : ¬ (p ≤ q) → zRun X y n0 n c ls st H P) : zRun X y n0 n ((.if_icmp .le off, x, a, b, v) :: c) ls (.int q :: .int p :: st) H P := by
  intro hm p9 e s m args below meth c0 hA pc hat lsA Hm locs hS
  obtain ⟨k, hd, hk, hc⟩ := zat_cons (by nofun) hat
  have hk2 : zoff (zst y) pc off x = true ∧ k = 3 := by simpa [zok] using hk
  obtain ⟨g1, rfl⟩ := hk2
  obtain ⟨g3, g4⟩ := zoff_ok g1
  (try rw [nI_0] at h1 h2)
  have J : zRun X y n0 n (blk y x) ls st H P → zGo X y n0 n P p9 e s m args below meth c0 (zst y x) lsA st Hm locs := fun ih => ih hm p9 e s m args below meth c0 hA (zst y x) (zat_blk hm g4) lsA Hm locs hS
  have N : zRun X y n0 n c ls st H P → zGo X y n0 n P p9 e s m args below meth c0 (pc + 3) lsA st Hm locs := fun ih => ih hm p9 e s m args below meth c0 hA (pc + 3) (hc rfl) lsA Hm locs hS
  exact lv_icmp_le hA.1 hA.2.1 hd g3 (fun hh => J (h1 hh)) (fun hh => N (h2 hh))
end ZT
