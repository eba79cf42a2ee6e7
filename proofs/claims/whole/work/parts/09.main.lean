theorem ent_mem (ad : Nat → Nat) : ∀ (vs : List Value) (off i : Nat) (v : Value), (xpd vs)[i]? = some v → kn v = true → (off + i, cv ad v) ∈ lv_args off (vs.map (cv ad))
  | [], off, i, v, h, hk => by simp [xpd] at h
  | a :: t, off, i, v, h, hk => by
    have e : xpd (a :: t) = (if a.category = 2 then [a, uu] else [a]) ++ xpd t := by simp [xpd]
    rw [e] at h
    simp only [List.map_cons, lv_args, cv_cat]
    by_cases hc : a.category = 2
    · simp only [hc, if_true] at h ⊢
      match i, h with
      | 0, h =>
        have h2 : a = v := by simpa using h
        subst h2
        exact List.mem_cons_self
      | 1, h =>
        have h2 : uu = v := by simpa using h
        subst h2
        simp [kn] at hk
      | j + 2, h =>
        have h2 : (xpd t)[j]? = some v := by simpa using h
        have h3 := ent_mem ad t (off + 2) j v h2 hk
        rw [show off + 2 + j = off + (j + 2) by omega] at h3
        exact List.mem_cons_of_mem _ h3
    · simp only [hc, if_false] at h ⊢
      match i, h with
      | 0, h =>
        have h2 : a = v := by simpa using h
        subst h2
        exact List.mem_cons_self
      | j + 1, h =>
        have h2 : (xpd t)[j]? = some v := by simpa using h
        have h3 := ent_mem ad t (off + 1) j v h2 hk
        rw [show off + 1 + j = off + (j + 1) by omega] at h3
        exact List.mem_cons_of_mem _ h3
theorem xpd_len (ad : Nat → Nat) : ∀ (vs : List Value), (lg_sl (vs.map (cv ad))).length = (xpd vs).length
  | [] => rfl
  | a :: t => by
    have e : xpd (a :: t) = (if a.category = 2 then [a, uu] else [a]) ++ xpd t := by simp [xpd]
    have e2 : lg_sl ((a :: t).map (cv ad)) = (if a.category = 2 then [Slot.val (cv ad a), .second] else [.val (cv ad a)]) ++ lg_sl (t.map (cv ad)) := by simp [lg_sl, cv_cat]
    rw [e, e2, List.length_append, List.length_append, xpd_len ad t]
    split <;> rfl
theorem mLoc_ent {ad : Nat → Nat} {n : Nat} {vs : List Value} (h : (xpd vs).length ≤ n) : mLoc ad n (ent n vs) ((lg_sl (vs.map (cv ad)) ++ List.replicate (n - (lg_sl (vs.map (cv ad))).length) Slot.unset).toArray) := by
  have hl := lv_entry (vs.map (cv ad)) (n := n) (by rw [xpd_len]; exact h)
  refine ⟨?_, hl.1, hl.2.1, fun i v hv hk => ?_⟩
  · unfold ent
    rw [List.length_append, List.length_replicate]
    omega
  · unfold ent at hv
    by_cases hi : i < (xpd vs).length
    · rw [List.getElem?_append_left hi] at hv
      have h2 := hl.2.2 _ (ent_mem ad vs 0 i v hv hk)
      rw [Nat.zero_add] at h2
      exact h2
    · rw [List.getElem?_append_right (by omega), List.getElem?_replicate] at hv
      split at hv
      · cases hv
        simp [kn] at hk
      · cases hv
theorem stat_sane {M : mM} {idx i : Nat} {ls st : List Value} {σ : mSt} {M' : mM} {vs : List Value} {i' : Nat} {ls' st' : List Value} (h : doStat M idx i ls st σ = some (.inr (.inl (M', vs, i', ls', st')))) : (∃ n, mSane M' n) ∧ (xpd vs).length ≤ mL M' := by
  unfold doStat at h
  split at h
  · rename_i M2 n hz
    split at h
    · obtain ⟨rfl, rfl, -, -, -, hx1, -⟩ := doCall_inv h
      exact ⟨⟨n, (mRz_ok hz).2⟩, hx1⟩
    · cases h
  · unfold doCopy at h
    (repeat' split at h) <;> cases h
  all_goals ((repeat' split at h) <;> cases h)
theorem virt_sane {M : mM} {idx i : Nat} {ls st : List Value} {M' : mM} {vs : List Value} {i' : Nat} {ls' st' : List Value} (h : doVirt M idx i ls st = some (.inr (.inl (M', vs, i', ls', st')))) : (∃ n, mSane M' n) ∧ (xpd vs).length ≤ mL M' := by
  unfold doVirt at h
  split at h
  · rename_i M2 n hz
    split at h
    · split at h
      · split at h
        · obtain ⟨rfl, rfl, -, -, -, hx1, -⟩ := doCall_inv h
          exact ⟨⟨n, (mRz_ok hz).2⟩, hx1⟩
        · cases h
      · cases h
    · cases h
  · cases h
theorem stat_noret {M : mM} {idx i : Nat} {ls st : List Value} {σ : mSt} {r : Option Value} (h : doStat M idx i ls st σ = some (.inr (.inr r))) : False := by
  unfold doStat at h
  split at h
  · split at h
    · unfold doCall at h
      split at h <;> cases h
    · cases h
  · unfold doCopy at h
    (repeat' split at h) <;> cases h
  all_goals ((repeat' split at h) <;> cases h)
theorem virt_nonx {M : mM} {idx i : Nat} {ls st : List Value} {r : mRes} (h : doVirt M idx i ls st = r) : r = none ∨ ∃ q, r = some (.inr (.inl q)) := by
  subst h
  unfold doVirt doCall
  (repeat' split) <;> simp
section MAIN
variable {p : Program} {l : Launch} {e : Env} {R : Room} {s : State} {m : MethodId} {args : Array Value} {below : List Frame} {meth : Method} {c : Code} {cells slots : Nat} {Qm : State → Prop} {D : va_G} {tys : List (ClassId × FieldType)} {ad : Nat → Nat} {cA : Nat → ClassId} {A : Nat → Prop} {E : mEn} {M : mM} {Q : mPost}
set_option maxHeartbeats 4000000 in
theorem main_cl (C : mCx p R s m args c cells slots D tys ad cA A E M) (d : Nat) (hfr : d + 1 ≤ R.frames) (hlo : 64 * (d + 1) ≤ R.locals)
    (hcs : ∀ (M' : mM) (n : Nat) (vs : List Value) (σ : mSt) (P : mPost), mSane M' n → (xpd vs).length ≤ mL M' → csE E d M' vs σ P → ∃ d', d = d' + 1 ∧ Met l (mY M') (mW M') (mRoom d') (va_Pc (vs.map (cv ad)) (mWd D tys ad cA A E σ)) (mQc D tys ad cA A E P) 0 0 A)
    (hR1 : ∀ (i : Nat) (v : Int32) (σ : mSt) (H : Heap) (locs : List Loc) (lsr : Array Slot), decode (mC M) i = .ok (.ireturn, 1) → (mR M = some .int ∨ (mR M = some .boolean ∧ (v = 0 ∨ v = 1))) → Q (some (.int v)) σ → mWo D ad cA A s.heap σ H locs → W p l e R s m args below meth c H locs cells slots Qm (F0 m i lsr [.int v]))
    (hR2 : ∀ (i : Nat) (v : Int64) (σ : mSt) (H : Heap) (locs : List Loc) (lsr : Array Slot), decode (mC M) i = .ok (.lreturn, 1) → mR M = some .long → Q (some (.long v)) σ → mWo D ad cA A s.heap σ H locs → W p l e R s m args below meth c H locs cells slots Qm (F0 m i lsr [.long v]))
    (hR3 : ∀ (i : Nat) (σ : mSt) (H : Heap) (locs : List Loc) (lsr : Array Slot), decode (mC M) i = .ok (.return_, 1) → mR M = none → Q none σ → mWo D ad cA A s.heap σ H locs → W p l e R s m args below meth c H locs cells slots Qm (F0 m i lsr [])) :
    ∀ (i : Nat) (ls st : List Value) (σ : mSt), exS (csE E d) Q (mG p l e R s m args below meth c cells slots Qm D ad cA A M) σ (stp E M i ls st σ) → mG p l e R s m args below meth c cells slots Qm D ad cA A M i ls st σ := by
  intro i ls st σ hx
  unfold stp at hx
  split at hx
  · rename_i ins len hd
    cases ins
    all_goals (first | exact False.elim hx | skip)
    case aload_n k0 =>
      dsimp only [stpI] at hx
      split at hx
      · rename_i hlen
        subst hlen
        obtain ⟨i', ls', st', σ', h, k⟩ := ex_nx nc_ldA hx
        exact g_aload_n C hd h k
      · exact False.elim hx
    case iload_n k0 =>
      dsimp only [stpI] at hx
      split at hx
      · rename_i hlen
        subst hlen
        obtain ⟨i', ls', st', σ', h, k⟩ := ex_nx nc_ldI hx
        exact g_iload_n C hd h k
      · exact False.elim hx
    case lload_n k0 =>
      dsimp only [stpI] at hx
      split at hx
      · rename_i hlen
        subst hlen
        obtain ⟨i', ls', st', σ', h, k⟩ := ex_nx nc_ldJ hx
        exact g_lload_n C hd h k
      · exact False.elim hx
    case aload k0 =>
      dsimp only [stpI] at hx
      split at hx
      · rename_i hlen
        subst hlen
        obtain ⟨i', ls', st', σ', h, k⟩ := ex_nx nc_ldA hx
        exact g_aload C hd h k
      · exact False.elim hx
    case iload k0 =>
      dsimp only [stpI] at hx
      split at hx
      · rename_i hlen
        subst hlen
        obtain ⟨i', ls', st', σ', h, k⟩ := ex_nx nc_ldI hx
        exact g_iload C hd h k
      · exact False.elim hx
    case lload k0 =>
      dsimp only [stpI] at hx
      split at hx
      · rename_i hlen
        subst hlen
        obtain ⟨i', ls', st', σ', h, k⟩ := ex_nx nc_ldJ hx
        exact g_lload C hd h k
      · exact False.elim hx
    case astore_n k0 =>
      dsimp only [stpI] at hx
      split at hx
      · rename_i hlen
        subst hlen
        obtain ⟨i', ls', st', σ', h, k⟩ := ex_nx nc_stA hx
        exact g_astore_n C hd h k
      · exact False.elim hx
    case istore_n k0 =>
      dsimp only [stpI] at hx
      split at hx
      · rename_i hlen
        subst hlen
        obtain ⟨i', ls', st', σ', h, k⟩ := ex_nx nc_stI hx
        exact g_istore_n C hd h k
      · exact False.elim hx
    case lstore_n k0 =>
      dsimp only [stpI] at hx
      split at hx
      · rename_i hlen
        subst hlen
        obtain ⟨i', ls', st', σ', h, k⟩ := ex_nx nc_stJ hx
        exact g_lstore_n C hd h k
      · exact False.elim hx
    case astore k0 =>
      dsimp only [stpI] at hx
      split at hx
      · rename_i hlen
        subst hlen
        obtain ⟨i', ls', st', σ', h, k⟩ := ex_nx nc_stA hx
        exact g_astore C hd h k
      · exact False.elim hx
    case istore k0 =>
      dsimp only [stpI] at hx
      split at hx
      · rename_i hlen
        subst hlen
        obtain ⟨i', ls', st', σ', h, k⟩ := ex_nx nc_stI hx
        exact g_istore C hd h k
      · exact False.elim hx
    case lstore k0 =>
      dsimp only [stpI] at hx
      split at hx
      · rename_i hlen
        subst hlen
        obtain ⟨i', ls', st', σ', h, k⟩ := ex_nx nc_stJ hx
        exact g_lstore C hd h k
      · exact False.elim hx
    case iinc k0 n =>
      dsimp only [stpI] at hx
      split at hx
      · rename_i hlen
        subst hlen
        obtain ⟨i', ls', st', σ', h, k⟩ := ex_nx nc_doIinc hx
        exact g_iinc C hd h k
      · exact False.elim hx
    case iconst n =>
      dsimp only [stpI] at hx
      split at hx
      · rename_i hlen
        subst hlen
        obtain ⟨i', ls', st', σ', h, k⟩ := ex_nx nc_nx hx
        exact g_iconst C hd h k
      · exact False.elim hx
    case bipush n =>
      dsimp only [stpI] at hx
      split at hx
      · rename_i hlen
        subst hlen
        obtain ⟨i', ls', st', σ', h, k⟩ := ex_nx nc_nx hx
        exact g_bipush C hd h k
      · exact False.elim hx
    case sipush n =>
      dsimp only [stpI] at hx
      split at hx
      · rename_i hlen
        subst hlen
        obtain ⟨i', ls', st', σ', h, k⟩ := ex_nx nc_nx hx
        exact g_sipush C hd h k
      · exact False.elim hx
    case lconst n =>
      dsimp only [stpI] at hx
      split at hx
      · rename_i hlen
        subst hlen
        obtain ⟨i', ls', st', σ', h, k⟩ := ex_nx nc_nx hx
        exact g_lconst C hd h k
      · exact False.elim hx
    case ldc idx =>
      dsimp only [stpI] at hx
      split at hx
      · rename_i hlen
        subst hlen
        obtain ⟨i', ls', st', σ', h, k⟩ := ex_nx nc_doLdc hx
        exact g_ldc C hd h k
      · exact False.elim hx
    case ldc_w idx =>
      dsimp only [stpI] at hx
      split at hx
      · rename_i hlen
        subst hlen
        obtain ⟨i', ls', st', σ', h, k⟩ := ex_nx nc_doLdc hx
        exact g_ldc_w C hd h k
      · exact False.elim hx
    case ldc2_w idx =>
      dsimp only [stpI] at hx
      split at hx
      · rename_i hlen
        subst hlen
        obtain ⟨i', ls', st', σ', h, k⟩ := ex_nx nc_doLdc2 hx
        exact g_ldc2 C hd h k
      · exact False.elim hx
    case iadd  =>
      dsimp only [stpI] at hx
      split at hx
      · rename_i hlen
        subst hlen
        obtain ⟨i', ls', st', σ', h, k⟩ := ex_nx nc_o2 hx
        exact g_iadd C hd h k
      · exact False.elim hx
    case isub  =>
      dsimp only [stpI] at hx
      split at hx
      · rename_i hlen
        subst hlen
        obtain ⟨i', ls', st', σ', h, k⟩ := ex_nx nc_o2 hx
        exact g_isub C hd h k
      · exact False.elim hx
    case imul  =>
      dsimp only [stpI] at hx
      split at hx
      · rename_i hlen
        subst hlen
        obtain ⟨i', ls', st', σ', h, k⟩ := ex_nx nc_o2 hx
        exact g_imul C hd h k
      · exact False.elim hx
    case iand  =>
      dsimp only [stpI] at hx
      split at hx
      · rename_i hlen
        subst hlen
        obtain ⟨i', ls', st', σ', h, k⟩ := ex_nx nc_o2 hx
        exact g_iand C hd h k
      · exact False.elim hx
    case ior  =>
      dsimp only [stpI] at hx
      split at hx
      · rename_i hlen
        subst hlen
        obtain ⟨i', ls', st', σ', h, k⟩ := ex_nx nc_o2 hx
        exact g_ior C hd h k
      · exact False.elim hx
    case ixor  =>
      dsimp only [stpI] at hx
      split at hx
      · rename_i hlen
        subst hlen
        obtain ⟨i', ls', st', σ', h, k⟩ := ex_nx nc_o2 hx
        exact g_ixor C hd h k
      · exact False.elim hx
    case ishl  =>
      dsimp only [stpI] at hx
      split at hx
      · rename_i hlen
        subst hlen
        obtain ⟨i', ls', st', σ', h, k⟩ := ex_nx nc_o2 hx
        exact g_ishl C hd h k
      · exact False.elim hx
    case ishr  =>
      dsimp only [stpI] at hx
      split at hx
      · rename_i hlen
        subst hlen
        obtain ⟨i', ls', st', σ', h, k⟩ := ex_nx nc_o2 hx
        exact g_ishr C hd h k
      · exact False.elim hx
    case idiv  =>
      dsimp only [stpI] at hx
      split at hx
      · rename_i hlen
        subst hlen
        obtain ⟨i', ls', st', σ', h, k⟩ := ex_nx nc_o2d hx
        exact g_idiv C hd h k
      · exact False.elim hx
    case irem  =>
      dsimp only [stpI] at hx
      split at hx
      · rename_i hlen
        subst hlen
        obtain ⟨i', ls', st', σ', h, k⟩ := ex_nx nc_o2d hx
        exact g_irem C hd h k
      · exact False.elim hx
    case ineg  =>
      dsimp only [stpI] at hx
      split at hx
      · rename_i hlen
        subst hlen
        obtain ⟨i', ls', st', σ', h, k⟩ := ex_nx nc_o1 hx
        exact g_ineg C hd h k
      · exact False.elim hx
    case i2l  =>
      dsimp only [stpI] at hx
      split at hx
      · rename_i hlen
        subst hlen
        obtain ⟨i', ls', st', σ', h, k⟩ := ex_nx nc_o1 hx
        exact g_i2l C hd h k
      · exact False.elim hx
    case i2b  =>
      dsimp only [stpI] at hx
      split at hx
      · rename_i hlen
        subst hlen
        obtain ⟨i', ls', st', σ', h, k⟩ := ex_nx nc_o1 hx
        exact g_i2b C hd h k
      · exact False.elim hx
    case i2s  =>
      dsimp only [stpI] at hx
      split at hx
      · rename_i hlen
        subst hlen
        obtain ⟨i', ls', st', σ', h, k⟩ := ex_nx nc_o1 hx
        exact g_i2s C hd h k
      · exact False.elim hx
    case l2i  =>
      dsimp only [stpI] at hx
      split at hx
      · rename_i hlen
        subst hlen
        obtain ⟨i', ls', st', σ', h, k⟩ := ex_nx nc_p1 hx
        exact g_l2i C hd h k
      · exact False.elim hx
    case ladd  =>
      dsimp only [stpI] at hx
      split at hx
      · rename_i hlen
        subst hlen
        obtain ⟨i', ls', st', σ', h, k⟩ := ex_nx nc_p2 hx
        exact g_ladd C hd h k
      · exact False.elim hx
    case lsub  =>
      dsimp only [stpI] at hx
      split at hx
      · rename_i hlen
        subst hlen
        obtain ⟨i', ls', st', σ', h, k⟩ := ex_nx nc_p2 hx
        exact g_lsub C hd h k
      · exact False.elim hx
    case lmul  =>
      dsimp only [stpI] at hx
      split at hx
      · rename_i hlen
        subst hlen
        obtain ⟨i', ls', st', σ', h, k⟩ := ex_nx nc_p2 hx
        exact g_lmul C hd h k
      · exact False.elim hx
    case land  =>
      dsimp only [stpI] at hx
      split at hx
      · rename_i hlen
        subst hlen
        obtain ⟨i', ls', st', σ', h, k⟩ := ex_nx nc_p2 hx
        exact g_land C hd h k
      · exact False.elim hx
    case lor  =>
      dsimp only [stpI] at hx
      split at hx
      · rename_i hlen
        subst hlen
        obtain ⟨i', ls', st', σ', h, k⟩ := ex_nx nc_p2 hx
        exact g_lor C hd h k
      · exact False.elim hx
    case ldiv  =>
      dsimp only [stpI] at hx
      split at hx
      · rename_i hlen
        subst hlen
        obtain ⟨i', ls', st', σ', h, k⟩ := ex_nx nc_p2d hx
        exact g_ldiv C hd h k
      · exact False.elim hx
    case lrem  =>
      dsimp only [stpI] at hx
      split at hx
      · rename_i hlen
        subst hlen
        obtain ⟨i', ls', st', σ', h, k⟩ := ex_nx nc_p2d hx
        exact g_lrem C hd h k
      · exact False.elim hx
    case lshl  =>
      dsimp only [stpI] at hx
      split at hx
      · rename_i hlen
        subst hlen
        obtain ⟨i', ls', st', σ', h, k⟩ := ex_nx nc_doShl hx
        exact g_lshl C hd h k
      · exact False.elim hx
    case lcmp  =>
      dsimp only [stpI] at hx
      split at hx
      · rename_i hlen
        subst hlen
        obtain ⟨i', ls', st', σ', h, k⟩ := ex_nx nc_doLcmp hx
        exact g_lcmp C hd h k
      · exact False.elim hx
    case ifCond q off =>
      dsimp only [stpI] at hx
      split at hx
      · rename_i hlen
        subst hlen
        obtain ⟨i', ls', st', σ', h, k⟩ := ex_nx nc_doIf hx
        exact g_ifCond C hd h k
      · exact False.elim hx
    case if_icmp q off =>
      dsimp only [stpI] at hx
      split at hx
      · rename_i hlen
        subst hlen
        obtain ⟨i', ls', st', σ', h, k⟩ := ex_nx nc_doIf2 hx
        exact g_if_icmp C hd h k
      · exact False.elim hx
    case goto off =>
      dsimp only [stpI] at hx
      split at hx
      · rename_i hlen
        subst hlen
        obtain ⟨i', ls', st', σ', h, k⟩ := ex_nx nc_jp hx
        exact g_goto C hd h k
      · exact False.elim hx
    case ifnull off =>
      dsimp only [stpI] at hx
      split at hx
      · rename_i hlen
        subst hlen
        obtain ⟨i', ls', st', σ', h, k⟩ := ex_nx nc_doNull hx
        exact g_ifnull C hd h k
      · exact False.elim hx
    case dup  =>
      dsimp only [stpI] at hx
      split at hx
      · rename_i hlen
        subst hlen
        obtain ⟨i', ls', st', σ', h, k⟩ := ex_nx nc_doDup hx
        exact g_dup C hd h k
      · exact False.elim hx
    case dup2  =>
      dsimp only [stpI] at hx
      split at hx
      · rename_i hlen
        subst hlen
        obtain ⟨i', ls', st', σ', h, k⟩ := ex_nx nc_doDup2 hx
        exact g_dup2 C hd h k
      · exact False.elim hx
    case pop  =>
      dsimp only [stpI] at hx
      split at hx
      · rename_i hlen
        subst hlen
        obtain ⟨i', ls', st', σ', h, k⟩ := ex_nx nc_doPop hx
        exact g_pop C hd h k
      · exact False.elim hx
    case arraylength  =>
      dsimp only [stpI] at hx
      split at hx
      · rename_i hlen
        subst hlen
        obtain ⟨i', ls', st', σ', h, k⟩ := ex_nx nc_doLen hx
        exact g_arraylength C hd h k
      · exact False.elim hx
    case iaload  =>
      dsimp only [stpI] at hx
      split at hx
      · rename_i hlen
        subst hlen
        obtain ⟨i', ls', st', σ', h, k⟩ := ex_nx nc_doAld hx
        exact g_iaload C hd h k
      · exact False.elim hx
    case iastore  =>
      dsimp only [stpI] at hx
      split at hx
      · rename_i hlen
        subst hlen
        obtain ⟨i', ls', st', σ', h, k⟩ := ex_nx nc_doAst hx
        exact g_iastore C hd h k
      · exact False.elim hx
    case baload  =>
      dsimp only [stpI] at hx
      split at hx
      · rename_i hlen
        subst hlen
        obtain ⟨i', ls', st', σ', h, k⟩ := ex_nx nc_doBld hx
        exact g_baload C hd h k
      · exact False.elim hx
    case bastore  =>
      dsimp only [stpI] at hx
      split at hx
      · rename_i hlen
        subst hlen
        obtain ⟨i', ls', st', σ', h, k⟩ := ex_nx nc_doBst hx
        exact g_bastore C hd h k
      · exact False.elim hx
    case laload  =>
      dsimp only [stpI] at hx
      split at hx
      · rename_i hlen
        subst hlen
        obtain ⟨i', ls', st', σ', h, k⟩ := ex_nx nc_doLld hx
        exact g_laload C hd h k
      · exact False.elim hx
    case lastore  =>
      dsimp only [stpI] at hx
      split at hx
      · rename_i hlen
        subst hlen
        obtain ⟨i', ls', st', σ', h, k⟩ := ex_nx nc_doLst hx
        exact g_lastore C hd h k
      · exact False.elim hx
    case aaload  =>
      dsimp only [stpI] at hx
      split at hx
      · rename_i hlen
        subst hlen
        obtain ⟨i', ls', st', σ', h, k⟩ := ex_nx nc_doQld hx
        exact g_aaload C hd h k
      · exact False.elim hx
    case getfield idx =>
      dsimp only [stpI] at hx
      split at hx
      · rename_i hlen
        subst hlen
        obtain ⟨i', ls', st', σ', h, k⟩ := ex_nx nc_doGet hx
        exact g_getfield C hd h k
      · exact False.elim hx
    case putfield idx =>
      dsimp only [stpI] at hx
      split at hx
      · rename_i hlen
        subst hlen
        obtain ⟨i', ls', st', σ', h, k⟩ := ex_nx nc_doPut hx
        exact g_putfield C hd h k
      · exact False.elim hx
    case getstatic idx =>
      dsimp only [stpI] at hx
      split at hx
      · rename_i hlen
        subst hlen
        obtain ⟨i', ls', st', σ', h, k⟩ := ex_nx nc_doGets hx
        exact g_getstatic C hd h k
      · exact False.elim hx
    case tableswitch d0 lo hi offs =>
      dsimp only [stpI] at hx
      obtain ⟨i', ls', st', σ', h, k⟩ := ex_nx nc_doSw hx
      exact g_table C hd h k
    case lookupswitch d0 ps =>
      dsimp only [stpI] at hx
      obtain ⟨i', ls', st', σ', h, k⟩ := ex_nx nc_doLk hx
      exact g_lookup C hd h k
    case invokestatic idx =>
      dsimp only [stpI] at hx
      split at hx
      · rename_i hlen
        subst hlen
        cases hr : doStat M idx i ls st σ with
        | none => rw [hr] at hx; exact False.elim hx
        | some q =>
          match q, hr with
          | .inl (i', ls', st', σ'), hr => rw [hr] at hx; exact g_stat C hd hr hx
          | .inr (.inl (M', vs, i', ls', st')), hr =>
            rw [hr] at hx
            obtain ⟨⟨n, hs⟩, hle⟩ := stat_sane hr
            obtain ⟨d', rfl, hM⟩ := hcs M' n vs σ _ hs hle hx
            exact g_callS C hd hr hfr hlo hM (fun r σ' h => h)
          | .inr (.inr r), hr => exact (stat_noret hr).elim
      · exact False.elim hx
    case invokevirtual idx =>
      dsimp only [stpI] at hx
      split at hx
      · rename_i hlen
        subst hlen
        rcases virt_nonx (rfl : doVirt M idx i ls st = _) with hr | ⟨⟨M', vs, i', ls', st'⟩, hr⟩
        · rw [hr] at hx; exact False.elim hx
        · rw [hr] at hx
          obtain ⟨⟨n, hs⟩, hle⟩ := virt_sane hr
          obtain ⟨d', rfl, hM⟩ := hcs M' n vs σ _ hs hle hx
          exact g_callV C hd hr hfr hlo hM (fun r σ' h => h)
      · exact False.elim hx
    case ireturn =>
      dsimp only [stpI] at hx
      split at hx
      · rename_i hlen
        subst hlen
        unfold doRet at hx
        split at hx
        · split at hx
          · rename_i hm
            intro H locs lsr hw hl
            exact hR1 i _ σ H locs lsr hd (Or.inl hm) hx hw
          · split at hx
            · rename_i hm
              intro H locs lsr hw hl
              exact hR1 i _ σ H locs lsr hd (Or.inr hm) hx hw
            · exact False.elim hx
        · exact False.elim hx
      · exact False.elim hx
    case lreturn =>
      dsimp only [stpI] at hx
      split at hx
      · rename_i hlen
        subst hlen
        unfold doRetJ at hx
        split at hx
        · split at hx
          · rename_i hm
            intro H locs lsr hw hl
            exact hR2 i _ σ H locs lsr hd hm hx hw
          · exact False.elim hx
        · exact False.elim hx
      · exact False.elim hx
    case return_ =>
      dsimp only [stpI] at hx
      split at hx
      · rename_i hlen
        subst hlen
        unfold doRetV at hx
        split at hx
        · split at hx
          · rename_i hm
            intro H locs lsr hw hl
            exact hR3 i σ H locs lsr hd hm hx hw
          · exact False.elim hx
        · exact False.elim hx
      · exact False.elim hx
  · exact False.elim hx
end MAIN
set_option maxHeartbeats 4000000 in
theorem Snd_body (d : Nat) {l : Launch} {E : mEn} {M : mM} {n : Nat} (hs : mSane M n) {vs : List Value} {σ : mSt} {P : mPost} (hlen : (xpd vs).length ≤ mL M) (w : WP E d M 0 (ent (mL M) vs) [] σ P) (D : va_G) (tys : List (ClassId × FieldType)) (ad : Nat → Nat) (cA : Nat → ClassId) (A : Nat → Prop)
    (hcs : ∀ (M' : mM) (n : Nat) (vs : List Value) (σ : mSt) (P : mPost), mSane M' n → (xpd vs).length ≤ mL M' → csE E d M' vs σ P → ∃ d', d = d' + 1 ∧ Met l (mY M') (mW M') (mRoom d') (va_Pc (vs.map (cv ad)) (mWd D tys ad cA A E σ)) (mQc D tys ad cA A E P) 0 0 A) :
    Met l (mY M) (mW M) (mRoom d) (va_Pc (vs.map (cv ad)) (mWd D tys ad cA A E σ)) (mQc D tys ad cA A E P) 0 0 A := by
  obtain ⟨h1, h2, h3, h4⟩ := id hs
  refine Met.ofW (cc := mC M) (maxL := mL M) (ret := mR M) (mCN_ok h1 h2).1 rfl ?_
  intro p e s m args below meth c s₁ B hml hv
  obtain ⟨rfl, hP, hD, hK, hTy, hEx⟩ := hv
  have hx := B.exec
  have hb := B.bytes
  have hr := B.returns
  have hts := atoms_spec (ws := mW M) B.pre
  have hown : s.vm.findClass (mY M).cls = some m.cls := findClass_of_methodNamed B.named
  have hlocks := B.notSynchronized
  have C : mCx p (headSpec (mW M) (mRoom d)).room s m (vs.map (cv ad)).toArray c 0 0 D tys ad cA A E M := ⟨hx, hb, hml, hown, h1, fun w hw => hts w (List.mem_cons_of_mem _ hw), hK, hTy, hEx, Nat.le_refl 0, Nat.le_refl 0, Nat.le_add_left 1 d, by show 64 ≤ 64 * (d + 1); omega⟩
  rw [lg_entry_eq]
  rw [WP_lfp] at w
  have fin : ∀ {σ : mSt} {H : Heap} {locs : List Loc} {r : Option Value} {rv : Option Value}, rv = r.map (cv ad) → P r σ → mWo D ad cA A s.heap σ H locs → ∀ t : State, t.heap = H → s.WarmedH t.vm → mQc D tys ad cA A E P (vs.map (cv ad)).toArray s (.returned rv) t := fun {σ H locs r rv} e q hw t ht hW => ⟨⟨r, σ, by rw [e], q, mWd_of C hw ht hW.alike⟩, hw.2.2.F ht⟩
  refine w (mG p l e (headSpec (mW M) (mRoom d)).room s m (vs.map (cv ad)).toArray below meth c 0 0 (MQ below (mQc D tys ad cA A E P) (vs.map (cv ad)).toArray s 0 0 A) D ad cA A M) (main_cl C d (Nat.le_refl _) (Nat.le_refl _) hcs ?_ ?_ ?_) s.heap [] _ ⟨hP, hD, va_S.rf⟩ (mLoc_ent hlen)
  · intro i v σ H locs lsr hd hm q hw
    rcases hm with hm | ⟨hm, hv⟩
    · exact W.iret hx hb (by rw [hr]; exact hm) (fin (r := some (.int v)) rfl q hw) hw.2.2.2.2 hd hlocks
    · exact W.zret (ty := .boolean) hx hb (by rw [hr]; exact hm) (by rcases hv with rfl | rfl <;> rfl) (fin (r := some (.int v)) rfl q hw) hw.2.2.2.2 hd hlocks
  · intro i v σ H locs lsr hd hm q hw
    exact W.lret hx hb (by rw [hr]; exact hm) (fin (r := some (.long v)) rfl q hw) hw.2.2.2.2 hd hlocks
  · intro i σ H locs lsr hd hm q hw
    exact W.vret hx hb (by rw [hr]; exact hm) (fin (r := none) rfl q hw) hw.2.2.2.2 hd hlocks
set_option maxHeartbeats 4000000 in
/-- what the machine says of a method is a contract of it -/
theorem Snd : ∀ (d : Nat) {l : Launch} {E : mEn} {M : mM} {n : Nat}, mSane M n → ∀ {vs : List Value} {σ : mSt} {P : mPost}, (xpd vs).length ≤ mL M → WP E d M 0 (ent (mL M) vs) [] σ P → ∀ (D : va_G) (tys : List (ClassId × FieldType)) (ad : Nat → Nat) (cA : Nat → ClassId) (A : Nat → Prop), Met l (mY M) (mW M) (mRoom d) (va_Pc (vs.map (cv ad)) (mWd D tys ad cA A E σ)) (mQc D tys ad cA A E P) 0 0 A := by
  intro d
  induction d with
  | zero =>
    intro l E M n hs vs σ P hlen w D tys ad cA A
    exact Snd_body 0 hs hlen w D tys ad cA A (fun M' n vs σ P _ _ h => False.elim h)
  | succ d ih =>
    intro l E M n hs vs σ P hlen w D tys ad cA A
    exact Snd_body (d + 1) hs hlen w D tys ad cA A (fun M' n vs σ P hs' hl' h => ⟨d, rfl, ih hs' hl' h D tys ad cA A⟩)
