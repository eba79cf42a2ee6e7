/-! The machine's steps as equations, a rule an instruction: what the printed block rows are made of. -/
section RULES
variable {E : mEn} {d : Nat} {M : mM} {Q : mPost} {i : Nat} {ls st : List Value} {σ : mSt}
theorem w_nx {ins : Instr} {len i' : Nat} {ls' st' : List Value} {σ' : mSt} (hd : decode (mC M) i = .ok (ins, len)) (h : stpI E M ins len i ls st σ = some (.inl (i', ls', st', σ'))) : WP E d M i ls st σ Q = WP E d M i' ls' st' σ' Q := by
  rw [WP_eq]
  unfold stp
  rw [hd]
  dsimp only
  rw [h]
  rfl
theorem w_no {ins : Instr} {len : Nat} (hd : decode (mC M) i = .ok (ins, len)) (h : stpI E M ins len i ls st σ = none) : WP E d M i ls st σ Q = False := by
  rw [WP_eq]
  unfold stp
  rw [hd]
  dsimp only
  rw [h]
  rfl
theorem w_ld {ins : Instr} {len i' : Nat} {ls' st' : List Value} {σ' : mSt} (hd : decode (mC M) i = .ok (ins, len)) (h : stpI E M ins len i ls st σ = nx i' ls' st' σ') : WP E d M i ls st σ Q = WP E d M i' ls' st' σ' Q := w_nx hd h
theorem w_aload_n {k : Fin 4} {a : Nat} (hd : decode (mC M) i = .ok (.aload_n k, 1)) (h : ls[(k : Nat)]? = some (.ref a)) : WP E d M i ls st σ Q = WP E d M (i + 1) ls (.ref a :: st) σ Q := w_nx hd (by simp only [stpI, ldA, if_true, h]; rfl)
theorem w_iload_n {k : Fin 4} {a : Int32} (hd : decode (mC M) i = .ok (.iload_n k, 1)) (h : ls[(k : Nat)]? = some (.int a)) : WP E d M i ls st σ Q = WP E d M (i + 1) ls (.int a :: st) σ Q := w_nx hd (by simp only [stpI, ldI, if_true, h]; rfl)
theorem w_lload_n {k : Fin 4} {a : Int64} (hd : decode (mC M) i = .ok (.lload_n k, 1)) (h : ls[(k : Nat)]? = some (.long a)) : WP E d M i ls st σ Q = WP E d M (i + 1) ls (.long a :: st) σ Q := w_nx hd (by simp only [stpI, ldJ, if_true, h]; rfl)
theorem w_aload {k : Nat} {a : Nat} (hd : decode (mC M) i = .ok (.aload k, 2)) (h : ls[k]? = some (.ref a)) : WP E d M i ls st σ Q = WP E d M (i + 2) ls (.ref a :: st) σ Q := w_nx hd (by simp only [stpI, ldA, if_true, h]; rfl)
theorem w_iload {k : Nat} {a : Int32} (hd : decode (mC M) i = .ok (.iload k, 2)) (h : ls[k]? = some (.int a)) : WP E d M i ls st σ Q = WP E d M (i + 2) ls (.int a :: st) σ Q := w_nx hd (by simp only [stpI, ldI, if_true, h]; rfl)
theorem w_lload {k : Nat} {a : Int64} (hd : decode (mC M) i = .ok (.lload k, 2)) (h : ls[k]? = some (.long a)) : WP E d M i ls st σ Q = WP E d M (i + 2) ls (.long a :: st) σ Q := w_nx hd (by simp only [stpI, ldJ, if_true, h]; rfl)
theorem w_istore_n {k : Fin 4} {a : Int32} {ls' : List Value} (hd : decode (mC M) i = .ok (.istore_n k, 1)) (h : (k : Nat) < ls.length) (h2 : lst1 ls k (.int a) = ls') : WP E d M i ls (.int a :: st) σ Q = WP E d M (i + 1) ls' st σ Q := w_nx hd (by simp only [stpI, stI, if_true, h, h2]; rfl)
theorem w_astore_n {k : Fin 4} {a : Nat} {ls' : List Value} (hd : decode (mC M) i = .ok (.astore_n k, 1)) (h : (k : Nat) < ls.length) (h2 : lst1 ls k (.ref a) = ls') : WP E d M i ls (.ref a :: st) σ Q = WP E d M (i + 1) ls' st σ Q := w_nx hd (by simp only [stpI, stA, if_true, h, h2]; rfl)
theorem w_lstore_n {k : Fin 4} {a : Int64} {ls' : List Value} (hd : decode (mC M) i = .ok (.lstore_n k, 1)) (h : (k : Nat) + 1 < ls.length) (h2 : lst2 ls k (.long a) = ls') : WP E d M i ls (.long a :: st) σ Q = WP E d M (i + 1) ls' st σ Q := w_nx hd (by simp only [stpI, stJ, if_true, h, h2]; rfl)
theorem w_istore {k : Nat} {a : Int32} {ls' : List Value} (hd : decode (mC M) i = .ok (.istore k, 2)) (h : k < ls.length) (h2 : lst1 ls k (.int a) = ls') : WP E d M i ls (.int a :: st) σ Q = WP E d M (i + 2) ls' st σ Q := w_nx hd (by simp only [stpI, stI, if_true, h, h2]; rfl)
theorem w_astore {k : Nat} {a : Nat} {ls' : List Value} (hd : decode (mC M) i = .ok (.astore k, 2)) (h : k < ls.length) (h2 : lst1 ls k (.ref a) = ls') : WP E d M i ls (.ref a :: st) σ Q = WP E d M (i + 2) ls' st σ Q := w_nx hd (by simp only [stpI, stA, if_true, h, h2]; rfl)
theorem w_lstore {k : Nat} {a : Int64} {ls' : List Value} (hd : decode (mC M) i = .ok (.lstore k, 2)) (h : k + 1 < ls.length) (h2 : lst2 ls k (.long a) = ls') : WP E d M i ls (.long a :: st) σ Q = WP E d M (i + 2) ls' st σ Q := w_nx hd (by simp only [stpI, stJ, if_true, h, h2]; rfl)
theorem w_iinc {k : Nat} {n : Int} {a v : Int32} {ls' : List Value} (hd : decode (mC M) i = .ok (.iinc k n, 3)) (h : ls[k]? = some (.int a)) (hv : Int32.ofInt n = v) (h2 : lst1 ls k (.int (a + v)) = ls') : WP E d M i ls st σ Q = WP E d M (i + 3) ls' st σ Q := by
  subst hv
  exact w_nx hd (by simp only [stpI, doIinc, if_true, h, h2]; rfl)
theorem w_iconst {n : Int} {v : Int32} (hd : decode (mC M) i = .ok (.iconst n, 1)) (hv : Int32.ofInt n = v) : WP E d M i ls st σ Q = WP E d M (i + 1) ls (.int v :: st) σ Q := by subst hv; exact w_nx hd rfl
theorem w_bipush {n : Int} {v : Int32} (hd : decode (mC M) i = .ok (.bipush n, 2)) (hv : (Int8.ofInt n).toInt32 = v) : WP E d M i ls st σ Q = WP E d M (i + 2) ls (.int v :: st) σ Q := by subst hv; exact w_nx hd rfl
theorem w_sipush {n : Int} {v : Int32} (hd : decode (mC M) i = .ok (.sipush n, 3)) (hv : (Int16.ofInt n).toInt32 = v) : WP E d M i ls st σ Q = WP E d M (i + 3) ls (.int v :: st) σ Q := by subst hv; exact w_nx hd rfl
theorem w_lconst {n : Fin 2} {v : Int64} (hd : decode (mC M) i = .ok (.lconst n, 1)) (hv : Int64.ofNat n = v) : WP E d M i ls st σ Q = WP E d M (i + 1) ls (.long v :: st) σ Q := by subst hv; exact w_nx hd rfl
theorem w_ldc {idx : Nat} {v : Int32} (hd : decode (mC M) i = .ok (.ldc idx, 2)) (h : mRz (mK M) idx = some (.inr (.inr (.inl v)))) : WP E d M i ls st σ Q = WP E d M (i + 2) ls (.int v :: st) σ Q := w_nx hd (by simp only [stpI, doLdc, if_true, h]; rfl)
theorem w_ldc_w {idx : Nat} {v : Int32} (hd : decode (mC M) i = .ok (.ldc_w idx, 3)) (h : mRz (mK M) idx = some (.inr (.inr (.inl v)))) : WP E d M i ls st σ Q = WP E d M (i + 3) ls (.int v :: st) σ Q := w_nx hd (by simp only [stpI, doLdc, if_true, h]; rfl)
theorem w_ldc2_w {idx : Nat} {v : Int64} (hd : decode (mC M) i = .ok (.ldc2_w idx, 3)) (h : mRz (mK M) idx = some (.inr (.inr (.inr (.inl v))))) : WP E d M i ls st σ Q = WP E d M (i + 3) ls (.long v :: st) σ Q := w_nx hd (by simp only [stpI, doLdc2, if_true, h]; rfl)
theorem w_iadd {x y : Int32} (hd : decode (mC M) i = .ok (.iadd, 1)) : WP E d M i ls (.int y :: .int x :: st) σ Q = WP E d M (i + 1) ls (.int (x + y) :: st) σ Q := w_nx hd rfl
theorem w_isub {x y : Int32} (hd : decode (mC M) i = .ok (.isub, 1)) : WP E d M i ls (.int y :: .int x :: st) σ Q = WP E d M (i + 1) ls (.int (x - y) :: st) σ Q := w_nx hd rfl
theorem w_imul {x y : Int32} (hd : decode (mC M) i = .ok (.imul, 1)) : WP E d M i ls (.int y :: .int x :: st) σ Q = WP E d M (i + 1) ls (.int (x * y) :: st) σ Q := w_nx hd rfl
theorem w_iand {x y : Int32} (hd : decode (mC M) i = .ok (.iand, 1)) : WP E d M i ls (.int y :: .int x :: st) σ Q = WP E d M (i + 1) ls (.int (x &&& y) :: st) σ Q := w_nx hd rfl
theorem w_ior {x y : Int32} (hd : decode (mC M) i = .ok (.ior, 1)) : WP E d M i ls (.int y :: .int x :: st) σ Q = WP E d M (i + 1) ls (.int (x ||| y) :: st) σ Q := w_nx hd rfl
theorem w_ixor {x y : Int32} (hd : decode (mC M) i = .ok (.ixor, 1)) : WP E d M i ls (.int y :: .int x :: st) σ Q = WP E d M (i + 1) ls (.int (x ^^^ y) :: st) σ Q := w_nx hd rfl
theorem w_ishl {x y : Int32} (hd : decode (mC M) i = .ok (.ishl, 1)) : WP E d M i ls (.int y :: .int x :: st) σ Q = WP E d M (i + 1) ls (.int (x <<< (y &&& 31)) :: st) σ Q := w_nx hd rfl
theorem w_ishr {x y : Int32} (hd : decode (mC M) i = .ok (.ishr, 1)) : WP E d M i ls (.int y :: .int x :: st) σ Q = WP E d M (i + 1) ls (.int (x >>> (y &&& 31)) :: st) σ Q := w_nx hd rfl
theorem w_idiv {x y : Int32} (hd : decode (mC M) i = .ok (.idiv, 1)) (h : ¬ y = 0) : WP E d M i ls (.int y :: .int x :: st) σ Q = WP E d M (i + 1) ls (.int (x / y) :: st) σ Q := w_nx hd (by simp only [stpI, o2d, if_true, h, if_false]; rfl)
theorem w_irem {x y : Int32} (hd : decode (mC M) i = .ok (.irem, 1)) (h : ¬ y = 0) : WP E d M i ls (.int y :: .int x :: st) σ Q = WP E d M (i + 1) ls (.int (x - x / y * y) :: st) σ Q := w_nx hd (by simp only [stpI, o2d, if_true, h, if_false]; rfl)
theorem w_irem' {x y : Int32} (hd : decode (mC M) i = .ok (.irem, 1)) : WP E d M i ls (.int y :: .int x :: st) σ Q = (if y = 0 then False else WP E d M (i + 1) ls (.int (x - x / y * y) :: st) σ Q) := by
  by_cases h : y = 0
  · rw [if_pos h]; exact w_no hd (by simp only [stpI, o2d, if_true, h])
  · rw [if_neg h]; exact w_irem hd h
theorem w_ineg {x : Int32} (hd : decode (mC M) i = .ok (.ineg, 1)) : WP E d M i ls (.int x :: st) σ Q = WP E d M (i + 1) ls (.int (-x) :: st) σ Q := w_nx hd rfl
theorem w_i2l {x : Int32} (hd : decode (mC M) i = .ok (.i2l, 1)) : WP E d M i ls (.int x :: st) σ Q = WP E d M (i + 1) ls (.long x.toInt64 :: st) σ Q := w_nx hd rfl
theorem w_i2b {x : Int32} (hd : decode (mC M) i = .ok (.i2b, 1)) : WP E d M i ls (.int x :: st) σ Q = WP E d M (i + 1) ls (.int x.toInt8.toInt32 :: st) σ Q := w_nx hd rfl
theorem w_i2s {x : Int32} (hd : decode (mC M) i = .ok (.i2s, 1)) : WP E d M i ls (.int x :: st) σ Q = WP E d M (i + 1) ls (.int x.toInt16.toInt32 :: st) σ Q := w_nx hd rfl
theorem w_l2i {x : Int64} (hd : decode (mC M) i = .ok (.l2i, 1)) : WP E d M i ls (.long x :: st) σ Q = WP E d M (i + 1) ls (.int x.toInt32 :: st) σ Q := w_nx hd rfl
theorem w_ladd {x y : Int64} (hd : decode (mC M) i = .ok (.ladd, 1)) : WP E d M i ls (.long y :: .long x :: st) σ Q = WP E d M (i + 1) ls (.long (x + y) :: st) σ Q := w_nx hd rfl
theorem w_lsub {x y : Int64} (hd : decode (mC M) i = .ok (.lsub, 1)) : WP E d M i ls (.long y :: .long x :: st) σ Q = WP E d M (i + 1) ls (.long (x - y) :: st) σ Q := w_nx hd rfl
theorem w_lmul {x y : Int64} (hd : decode (mC M) i = .ok (.lmul, 1)) : WP E d M i ls (.long y :: .long x :: st) σ Q = WP E d M (i + 1) ls (.long (x * y) :: st) σ Q := w_nx hd rfl
theorem w_land {x y : Int64} (hd : decode (mC M) i = .ok (.land, 1)) : WP E d M i ls (.long y :: .long x :: st) σ Q = WP E d M (i + 1) ls (.long (x &&& y) :: st) σ Q := w_nx hd rfl
theorem w_lor {x y : Int64} (hd : decode (mC M) i = .ok (.lor, 1)) : WP E d M i ls (.long y :: .long x :: st) σ Q = WP E d M (i + 1) ls (.long (x ||| y) :: st) σ Q := w_nx hd rfl
theorem w_ldiv {x y : Int64} (hd : decode (mC M) i = .ok (.ldiv, 1)) : WP E d M i ls (.long y :: .long x :: st) σ Q = (if y = 0 then False else WP E d M (i + 1) ls (.long (x / y) :: st) σ Q) := by
  by_cases h : y = 0
  · rw [if_pos h]; exact w_no hd (by simp only [stpI, p2d, if_true, h])
  · rw [if_neg h]; exact w_nx hd (by simp only [stpI, p2d, if_true, h, if_false]; rfl)
theorem w_lrem {x y : Int64} (hd : decode (mC M) i = .ok (.lrem, 1)) : WP E d M i ls (.long y :: .long x :: st) σ Q = (if y = 0 then False else WP E d M (i + 1) ls (.long (x - x / y * y) :: st) σ Q) := by
  by_cases h : y = 0
  · rw [if_pos h]; exact w_no hd (by simp only [stpI, p2d, if_true, h])
  · rw [if_neg h]; exact w_nx hd (by simp only [stpI, p2d, if_true, h, if_false]; rfl)
theorem w_lshl {x : Int64} {y : Int32} (hd : decode (mC M) i = .ok (.lshl, 1)) : WP E d M i ls (.int y :: .long x :: st) σ Q = WP E d M (i + 1) ls (.long (x <<< (y.toInt64 &&& 63)) :: st) σ Q := w_nx hd rfl
theorem w_lcmp {x y : Int64} (hd : decode (mC M) i = .ok (.lcmp, 1)) : WP E d M i ls (.long y :: .long x :: st) σ Q = WP E d M (i + 1) ls (.int (lg_cmp x y) :: st) σ Q := w_nx hd rfl
theorem w_br {ins : Instr} {len a b : Nat} {q : Prop} [Decidable q] {st' : List Value} (hd : decode (mC M) i = .ok (ins, len)) (h : stpI E M ins len i ls st σ = nx (if q then a else b) ls st' σ) : WP E d M i ls st σ Q = (if q then WP E d M a ls st' σ Q else WP E d M b ls st' σ Q) := by
  rw [w_nx hd h]
  split <;> rfl
theorem br_eq {off : Int} {t : Nat} {q : Prop} [Decidable q] (h : (i : Int) + off = (t : Int)) : br i off q ls st σ = nx (if q then t else i + 3) ls st σ := by
  unfold br
  rw [h, if_pos (Int.natCast_nonneg t)]
  rfl
theorem jp_eq {off : Int} {t : Nat} (h : (i : Int) + off = (t : Int)) : jp i off ls st σ = nx t ls st σ := by
  unfold jp
  rw [h, if_pos (Int.natCast_nonneg t)]
  rfl
theorem w_goto {off : Int} {t : Nat} (hd : decode (mC M) i = .ok (.goto off, 3)) (h : (i : Int) + off = (t : Int)) : WP E d M i ls st σ Q = WP E d M t ls st σ Q := w_nx hd (by simp only [stpI, if_true, jp_eq h]; rfl)
theorem w_ifeq {off : Int} {t : Nat} {x : Int32} (hd : decode (mC M) i = .ok (.ifCond .eq off, 3)) (h : (i : Int) + off = (t : Int)) : WP E d M i ls (.int x :: st) σ Q = (if x = 0 then WP E d M t ls st σ Q else WP E d M (i + 3) ls st σ Q) := w_br hd (by simp only [stpI, doIf, if_true, br_eq h, cm0, decide_eq_true_eq])
theorem w_icmpeq {off : Int} {t : Nat} {x y : Int32} (hd : decode (mC M) i = .ok (.if_icmp .eq off, 3)) (h : (i : Int) + off = (t : Int)) : WP E d M i ls (.int y :: .int x :: st) σ Q = (if x = y then WP E d M t ls st σ Q else WP E d M (i + 3) ls st σ Q) := w_br hd (by simp only [stpI, doIf2, if_true, br_eq h, cm2, decide_eq_true_eq])
theorem w_ifne {off : Int} {t : Nat} {x : Int32} (hd : decode (mC M) i = .ok (.ifCond .ne off, 3)) (h : (i : Int) + off = (t : Int)) : WP E d M i ls (.int x :: st) σ Q = (if ¬ x = 0 then WP E d M t ls st σ Q else WP E d M (i + 3) ls st σ Q) := w_br hd (by simp only [stpI, doIf, if_true, br_eq h, cm0, decide_eq_true_eq])
theorem w_icmpne {off : Int} {t : Nat} {x y : Int32} (hd : decode (mC M) i = .ok (.if_icmp .ne off, 3)) (h : (i : Int) + off = (t : Int)) : WP E d M i ls (.int y :: .int x :: st) σ Q = (if ¬ x = y then WP E d M t ls st σ Q else WP E d M (i + 3) ls st σ Q) := w_br hd (by simp only [stpI, doIf2, if_true, br_eq h, cm2, decide_eq_true_eq])
theorem w_iflt {off : Int} {t : Nat} {x : Int32} (hd : decode (mC M) i = .ok (.ifCond .lt off, 3)) (h : (i : Int) + off = (t : Int)) : WP E d M i ls (.int x :: st) σ Q = (if x < 0 then WP E d M t ls st σ Q else WP E d M (i + 3) ls st σ Q) := w_br hd (by simp only [stpI, doIf, if_true, br_eq h, cm0, decide_eq_true_eq])
theorem w_icmplt {off : Int} {t : Nat} {x y : Int32} (hd : decode (mC M) i = .ok (.if_icmp .lt off, 3)) (h : (i : Int) + off = (t : Int)) : WP E d M i ls (.int y :: .int x :: st) σ Q = (if x < y then WP E d M t ls st σ Q else WP E d M (i + 3) ls st σ Q) := w_br hd (by simp only [stpI, doIf2, if_true, br_eq h, cm2, decide_eq_true_eq])
theorem w_ifge {off : Int} {t : Nat} {x : Int32} (hd : decode (mC M) i = .ok (.ifCond .ge off, 3)) (h : (i : Int) + off = (t : Int)) : WP E d M i ls (.int x :: st) σ Q = (if 0 ≤ x then WP E d M t ls st σ Q else WP E d M (i + 3) ls st σ Q) := w_br hd (by simp only [stpI, doIf, if_true, br_eq h, cm0, decide_eq_true_eq])
theorem w_icmpge {off : Int} {t : Nat} {x y : Int32} (hd : decode (mC M) i = .ok (.if_icmp .ge off, 3)) (h : (i : Int) + off = (t : Int)) : WP E d M i ls (.int y :: .int x :: st) σ Q = (if y ≤ x then WP E d M t ls st σ Q else WP E d M (i + 3) ls st σ Q) := w_br hd (by simp only [stpI, doIf2, if_true, br_eq h, cm2, decide_eq_true_eq])
theorem w_ifgt {off : Int} {t : Nat} {x : Int32} (hd : decode (mC M) i = .ok (.ifCond .gt off, 3)) (h : (i : Int) + off = (t : Int)) : WP E d M i ls (.int x :: st) σ Q = (if 0 < x then WP E d M t ls st σ Q else WP E d M (i + 3) ls st σ Q) := w_br hd (by simp only [stpI, doIf, if_true, br_eq h, cm0, decide_eq_true_eq])
theorem w_icmpgt {off : Int} {t : Nat} {x y : Int32} (hd : decode (mC M) i = .ok (.if_icmp .gt off, 3)) (h : (i : Int) + off = (t : Int)) : WP E d M i ls (.int y :: .int x :: st) σ Q = (if y < x then WP E d M t ls st σ Q else WP E d M (i + 3) ls st σ Q) := w_br hd (by simp only [stpI, doIf2, if_true, br_eq h, cm2, decide_eq_true_eq])
theorem w_ifle {off : Int} {t : Nat} {x : Int32} (hd : decode (mC M) i = .ok (.ifCond .le off, 3)) (h : (i : Int) + off = (t : Int)) : WP E d M i ls (.int x :: st) σ Q = (if x ≤ 0 then WP E d M t ls st σ Q else WP E d M (i + 3) ls st σ Q) := w_br hd (by simp only [stpI, doIf, if_true, br_eq h, cm0, decide_eq_true_eq])
theorem w_icmple {off : Int} {t : Nat} {x y : Int32} (hd : decode (mC M) i = .ok (.if_icmp .le off, 3)) (h : (i : Int) + off = (t : Int)) : WP E d M i ls (.int y :: .int x :: st) σ Q = (if x ≤ y then WP E d M t ls st σ Q else WP E d M (i + 3) ls st σ Q) := w_br hd (by simp only [stpI, doIf2, if_true, br_eq h, cm2, decide_eq_true_eq])
theorem w_ifnull {off : Int} {a : Nat} (hd : decode (mC M) i = .ok (.ifnull off, 3)) : WP E d M i ls (.ref a :: st) σ Q = WP E d M (i + 3) ls st σ Q := w_nx hd rfl
theorem w_dup {v : Value} (hd : decode (mC M) i = .ok (.dup, 1)) (h : v.category = 1) : WP E d M i ls (v :: st) σ Q = WP E d M (i + 1) ls (v :: v :: st) σ Q := w_nx hd (by simp only [stpI, doDup, if_true, h]; rfl)
theorem w_dup2 {v w : Value} (hd : decode (mC M) i = .ok (.dup2, 1)) (h : v.category = 1) (h2 : w.category = 1) : WP E d M i ls (v :: w :: st) σ Q = WP E d M (i + 1) ls (v :: w :: v :: w :: st) σ Q := w_nx hd (by simp only [stpI, doDup2, if_true, h, h2, and_self]; rfl)
theorem w_pop {v : Value} (hd : decode (mC M) i = .ok (.pop, 1)) (h : v.category = 1) : WP E d M i ls (v :: st) σ Q = WP E d M (i + 1) ls st σ Q := w_nx hd (by simp only [stpI, doPop, if_true, h]; rfl)
theorem w_len {a n : Nat} (hd : decode (mC M) i = .ok (.arraylength, 1)) (h : aLen E a = some n) : WP E d M i ls (.ref a :: st) σ Q = WP E d M (i + 1) ls (.int (nI n) :: st) σ Q := w_nx hd (by simp only [stpI, doLen, if_true, h]; rfl)
theorem w_out {ins : Instr} {len i' n : Nat} {j : Int32} {ls' st' : List Value} {σ' : mSt} (hd : decode (mC M) i = .ok (ins, len)) (h : stpI E M ins len i ls st σ = (if mOut j n = true then none else nx i' ls' st' σ')) : WP E d M i ls st σ Q = (if mOut j n = true then False else WP E d M i' ls' st' σ' Q) := by
  by_cases hc : mOut j n = true
  · rw [if_pos hc]; rw [if_pos hc] at h; exact w_no hd h
  · rw [if_neg hc]; rw [if_neg hc] at h; exact w_nx hd h
theorem w_iald {a n : Nat} {j : Int32} {fl : List Nat} (hd : decode (mC M) i = .ok (.iaload, 1)) (h : mS0[a]? = some (0, n, fl)) (ha : a < 1000) : WP E d M i ls (.int j :: .ref a :: st) σ Q = (if mOut j n = true then False else WP E d M (i + 1) ls (.int (σ.1 a j.toNatClampNeg) :: st) σ Q) := w_out hd (by simp only [stpI, doAld, iRow, if_true, h, show ¬ a = 1000 by omega, show ¬ a = 1001 by omega, if_false])
theorem w_iald0 {j : Int32} (hd : decode (mC M) i = .ok (.iaload, 1)) : WP E d M i ls (.int j :: .ref 1000 :: st) σ Q = (if mOut j E.1 = true then False else WP E d M (i + 1) ls (.int (E.2 j.toNatClampNeg) :: st) σ Q) := w_out hd (by simp only [stpI, doAld, iRow, if_true])
theorem w_iald1 {j : Int32} (hd : decode (mC M) i = .ok (.iaload, 1)) : WP E d M i ls (.int j :: .ref 1001 :: st) σ Q = (if mOut j 4 = true then False else WP E d M (i + 1) ls (.int (mStarts j.toNatClampNeg) :: st) σ Q) := w_out hd (by simp [stpI, doAld, iRow])
theorem w_iast {a n : Nat} {j x : Int32} {fl : List Nat} (hd : decode (mC M) i = .ok (.iastore, 1)) (h : mS0[a]? = some (0, n, fl)) : WP E d M i ls (.int x :: .int j :: .ref a :: st) σ Q = (if mOut j n = true then False else WP E d M (i + 1) ls st (sI σ a j.toNatClampNeg x) Q) := w_out hd (by simp only [stpI, doAst, if_true, h])
theorem w_bald {a n : Nat} {j : Int32} {fl : List Nat} (hd : decode (mC M) i = .ok (.baload, 1)) (h : mS0[a]? = some (1, n, fl)) : WP E d M i ls (.int j :: .ref a :: st) σ Q = (if mOut j n = true then False else WP E d M (i + 1) ls (.int (σ.1 a j.toNatClampNeg) :: st) σ Q) := w_out hd (by simp only [stpI, doBld, if_true, h])
theorem w_zald {a n : Nat} {j : Int32} {fl : List Nat} (hd : decode (mC M) i = .ok (.baload, 1)) (h : mS0[a]? = some (2, n, fl)) : WP E d M i ls (.int j :: .ref a :: st) σ Q = (if mOut j n = true then False else WP E d M (i + 1) ls (.int (σ.1 a j.toNatClampNeg) :: st) σ Q) := w_out hd (by simp only [stpI, doBld, if_true, h])
theorem w_bast {a n : Nat} {j x : Int32} {fl : List Nat} (hd : decode (mC M) i = .ok (.bastore, 1)) (h : mS0[a]? = some (1, n, fl)) : WP E d M i ls (.int x :: .int j :: .ref a :: st) σ Q = (if mOut j n = true then False else WP E d M (i + 1) ls st (sI σ a j.toNatClampNeg (vp_nar .byte x)) Q) := w_out hd (by simp only [stpI, doBst, if_true, h])
theorem w_zast {a n : Nat} {j x : Int32} {fl : List Nat} (hd : decode (mC M) i = .ok (.bastore, 1)) (h : mS0[a]? = some (2, n, fl)) : WP E d M i ls (.int x :: .int j :: .ref a :: st) σ Q = (if mOut j n = true then False else WP E d M (i + 1) ls st (sI σ a j.toNatClampNeg (vp_nar .boolean x)) Q) := w_out hd (by simp only [stpI, doBst, if_true, h])
theorem w_lald {a n : Nat} {j : Int32} {fl : List Nat} (hd : decode (mC M) i = .ok (.laload, 1)) (h : mS0[a]? = some (3, n, fl)) : WP E d M i ls (.int j :: .ref a :: st) σ Q = (if mOut j n = true then False else WP E d M (i + 1) ls (.long (σ.2 a j.toNatClampNeg) :: st) σ Q) := w_out hd (by simp only [stpI, doLld, if_true, h])
theorem w_last {a n : Nat} {j : Int32} {x : Int64} {fl : List Nat} (hd : decode (mC M) i = .ok (.lastore, 1)) (h : mS0[a]? = some (3, n, fl)) : WP E d M i ls (.long x :: .int j :: .ref a :: st) σ Q = (if mOut j n = true then False else WP E d M (i + 1) ls st (sL σ a j.toNatClampNeg x) Q) := w_out hd (by simp only [stpI, doLst, if_true, h])
theorem w_geti {idx a ci k : Nat} {fl : List Nat} (hd : decode (mC M) i = .ok (.getfield idx, 3)) (hz : mRz (mK M) idx = some (.inl (ci, k))) (h : mS0[a]? = some (5, ci, fl)) (hk : fl[k]? = some 0) : WP E d M i ls (.ref a :: st) σ Q = WP E d M (i + 3) ls (.int (σ.1 a k) :: st) σ Q := w_nx hd (by simp only [stpI, doGet, if_true, hz, h, hk]; rfl)
theorem w_getl {idx a ci k : Nat} {fl : List Nat} (hd : decode (mC M) i = .ok (.getfield idx, 3)) (hz : mRz (mK M) idx = some (.inl (ci, k))) (h : mS0[a]? = some (5, ci, fl)) (hk : fl[k]? = some 1) : WP E d M i ls (.ref a :: st) σ Q = WP E d M (i + 3) ls (.long (σ.2 a k) :: st) σ Q := w_nx hd (by simp only [stpI, doGet, if_true, hz, h, hk]; rfl)
theorem w_getr {idx a ci k r : Nat} {fl : List Nat} (hd : decode (mC M) i = .ok (.getfield idx, 3)) (hz : mRz (mK M) idx = some (.inl (ci, k))) (h : mS0[a]? = some (5, ci, fl)) (hk : fl[k]? = some (r + 2)) : WP E d M i ls (.ref a :: st) σ Q = WP E d M (i + 3) ls (.ref r :: st) σ Q := w_nx hd (by simp only [stpI, doGet, if_true, hz, h, hk]; rfl)
theorem w_puti {idx a ci k : Nat} {v : Int32} {fl : List Nat} (hd : decode (mC M) i = .ok (.putfield idx, 3)) (hz : mRz (mK M) idx = some (.inl (ci, k))) (h : mS0[a]? = some (5, ci, fl)) (hk : fl[k]? = some 0) (hf : mFin ci k = false) (ht : mTyF ci k = .int) : WP E d M i ls (.int v :: .ref a :: st) σ Q = WP E d M (i + 3) ls st (sI σ a k v) Q := w_nx hd (by simp only [stpI, doPut, if_true, hz, h, hk, hf, ht, and_self]; rfl)
theorem w_putz {idx a ci k : Nat} {v : Int32} {fl : List Nat} (hd : decode (mC M) i = .ok (.putfield idx, 3)) (hz : mRz (mK M) idx = some (.inl (ci, k))) (h : mS0[a]? = some (5, ci, fl)) (hk : fl[k]? = some 0) (hf : mFin ci k = false) (ht : mTyF ci k = .boolean) (hv : v = 0 ∨ v = 1) : WP E d M i ls (.int v :: .ref a :: st) σ Q = WP E d M (i + 3) ls st (sI σ a k v) Q := w_nx hd (by
  have e : ¬ (FieldType.boolean = FieldType.int) := by decide
  simp only [stpI, doPut, if_true, hz, h, hk, hf, ht, and_self, hv, e, if_false]; rfl)
theorem w_putl {idx a ci k : Nat} {v : Int64} {fl : List Nat} (hd : decode (mC M) i = .ok (.putfield idx, 3)) (hz : mRz (mK M) idx = some (.inl (ci, k))) (h : mS0[a]? = some (5, ci, fl)) (hk : fl[k]? = some 1) (hf : mFin ci k = false) (ht : mTyF ci k = .long) : WP E d M i ls (.long v :: .ref a :: st) σ Q = WP E d M (i + 3) ls st (sL σ a k v) Q := w_nx hd (by simp only [stpI, doPut, if_true, hz, h, hk, hf, ht, and_self]; rfl)
theorem w_starts {idx : Nat} (hd : decode (mC M) i = .ok (.getstatic idx, 3)) (hz : mRz (mK M) idx = some (.inr (.inr (.inr (.inr 1))))) : WP E d M i ls st σ Q = WP E d M (i + 3) ls (.ref 1001 :: st) σ Q := w_nx hd (by simp only [stpI, doGets, if_true, hz]; rfl)
theorem w_max {idx : Nat} {x y : Int32} (hd : decode (mC M) i = .ok (.invokestatic idx, 3)) (hz : mRz (mK M) idx = some (.inr (.inr (.inr (.inr 2))))) (hc : cats st ≤ 8) : WP E d M i ls (.int y :: .int x :: st) σ Q = WP E d M (i + 3) ls (.int (if x < y then y else x) :: st) σ Q := w_nx hd (by simp only [stpI, doStat, if_true, hz, hc]; rfl)
theorem w_min {idx : Nat} {x y : Int32} (hd : decode (mC M) i = .ok (.invokestatic idx, 3)) (hz : mRz (mK M) idx = some (.inr (.inr (.inr (.inr 3))))) (hc : cats st ≤ 8) : WP E d M i ls (.int y :: .int x :: st) σ Q = WP E d M (i + 3) ls (.int (if y < x then y else x) :: st) σ Q := w_nx hd (by simp only [stpI, doStat, if_true, hz, hc]; rfl)
theorem w_maxl {idx : Nat} {x y : Int64} (hd : decode (mC M) i = .ok (.invokestatic idx, 3)) (hz : mRz (mK M) idx = some (.inr (.inr (.inr (.inr 4))))) (hc : cats st ≤ 8) : WP E d M i ls (.long y :: .long x :: st) σ Q = WP E d M (i + 3) ls (.long (if y < x then x else y) :: st) σ Q := w_nx hd (by simp only [stpI, doStat, if_true, hz, hc]; rfl)
theorem w_absl {idx : Nat} {x : Int64} (hd : decode (mC M) i = .ok (.invokestatic idx, 3)) (hz : mRz (mK M) idx = some (.inr (.inr (.inr (.inr 5))))) (hc : cats st ≤ 8) : WP E d M i ls (.long x :: st) σ Q = WP E d M (i + 3) ls (.long (if 0 < x then x else -x) :: st) σ Q := w_nx hd (by simp only [stpI, doStat, if_true, hz, hc]; rfl)
theorem w_call {ins : Instr} {len i' : Nat} {M' : mM} {vs ls' st' : List Value} (hd : decode (mC M) i = .ok (ins, len)) (h : stpI E M ins len i ls st σ = some (.inr (.inl (M', vs, i', ls', st')))) : WP E (d + 1) M i ls st σ Q = WP E d M' 0 (ent (mL M') vs) [] σ (fun r σ' => WP E (d + 1) M i' ls' (r.toList ++ st') σ' Q) := by
  rw [WP_eq]
  unfold stp
  rw [hd]
  dsimp only
  rw [h]
  rfl
theorem w_stat {idx n : Nat} {M' : mM} {vs st' es : List Value} (hd : decode (mC M) i = .ok (.invokestatic idx, 3)) (hz : mRz (mK M) idx = some (.inr (.inl (true, M', n)))) (h1 : (st.take n).length = n) (h2 : (st.take n).reverse = vs) (h3 : st.drop n = st') (h4 : (xpd vs).length ≤ mL M') (h5 : cats st' ≤ 8) (h6 : ent (mL M') vs = es) : WP E (d + 1) M i ls st σ Q = WP E d M' 0 es [] σ (fun r σ' => WP E (d + 1) M (i + 3) ls (r.toList ++ st') σ' Q) := by
  subst h6
  exact w_call hd (by simp only [stpI, doStat, if_true, hz, h1, h2, h3, doCall, h4, h5, and_self])
theorem w_virt {idx n b ci : Nat} {M' : mM} {vs st' es : List Value} {fl : List Nat} (hd : decode (mC M) i = .ok (.invokevirtual idx, 3)) (hz : mRz (mK M) idx = some (.inr (.inl (false, M', n)))) (h3 : st.drop n = .ref b :: st') (h : mS0[b]? = some (5, ci, fl)) (hc : ci = mK M') (h1 : (st.take n).length = n) (h2 : (st.take n).reverse = vs) (h4 : (xpd (.ref b :: vs)).length ≤ mL M') (h5 : cats st' ≤ 8) (h6 : ent (mL M') (.ref b :: vs) = es) : WP E (d + 1) M i ls st σ Q = WP E d M' 0 es [] σ (fun r σ' => WP E (d + 1) M (i + 3) ls (r.toList ++ st') σ' Q) := by
  subst h6
  exact w_call hd (by simp only [stpI, doVirt, if_true, hz, h3, h, hc, h1, h2, doCall, h4, h5, and_self])
theorem w_iret {v : Int32} (hd : decode (mC M) i = .ok (.ireturn, 1)) (h : mR M = some .int) : WP E d M i ls [.int v] σ Q = Q (some (.int v)) σ := by
  rw [WP_eq]
  unfold stp
  rw [hd]
  simp only [stpI, doRet, if_true, h]
  rfl
theorem w_zret {v : Int32} (hd : decode (mC M) i = .ok (.ireturn, 1)) (h : mR M = some .boolean) (hv : v = 0 ∨ v = 1) : WP E d M i ls [.int v] σ Q = Q (some (.int v)) σ := by
  rw [WP_eq]
  unfold stp
  rw [hd]
  have e : ¬ (some FieldType.boolean = some FieldType.int) := by decide
  simp only [stpI, doRet, if_true, h, e, if_false, hv, and_self]
  rfl
theorem w_lret {v : Int64} (hd : decode (mC M) i = .ok (.lreturn, 1)) (h : mR M = some .long) : WP E d M i ls [.long v] σ Q = Q (some (.long v)) σ := by
  rw [WP_eq]
  unfold stp
  rw [hd]
  simp only [stpI, doRetJ, if_true, h]
  rfl
theorem w_vret (hd : decode (mC M) i = .ok (.return_, 1)) (h : mR M = none) : WP E d M i ls [] σ Q = Q none σ := by
  rw [WP_eq]
  unfold stp
  rw [hd]
  simp only [stpI, doRetV, if_true, h]
  rfl
end RULES
