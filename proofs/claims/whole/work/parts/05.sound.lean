/-! What the machine says is so of the JVM: instruction by instruction over the kit's rows. -/
def cv (ad : Nat → Nat) : Value → Value
  | .ref a => .ref (ad a)
  | v => v
theorem cv_cat (ad : Nat → Nat) (v : Value) : (cv ad v).category = v.category := by cases v <;> rfl
def mFld (ad : Nat → Nat) (σ : mSt) (k j e : Nat) : Value := match e with
  | 0 => .int (σ.1 k j)
  | 1 => .long (σ.2 k j)
  | r + 2 => .ref (ad r)
def mCell (ad : Nat → Nat) (cA : Nat → ClassId) (σ : mSt) (k : Nat) (sh : mSh) : va_E :=
  if sh.1 < 3 then .inl (cA k, sh.2.1, .inl (σ.1 k))
  else if sh.1 = 3 then .inl (cA k, sh.2.1, .inr (.inl (σ.2 k)))
  else if sh.1 = 4 then .inl (cA k, sh.2.1, .inr (.inr (.inr (.inr (fun j => (sh.2.2[j]?).map ad)))))
  else .inr (sh.2.1, sh.2.2.mapIdx (fun j e => mFld ad σ k j e))
def mWs (ad : Nat → Nat) (cA : Nat → ClassId) (σ : mSt) : va_W := mS0.mapIdx (fun k sh => (ad k, mCell ad cA σ k sh))
theorem mWs_at {ad : Nat → Nat} {cA : Nat → ClassId} {σ : mSt} {k : Nat} {sh : mSh} (h : mS0[k]? = some sh) : (mWs ad cA σ)[k]? = some (ad k, mCell ad cA σ k sh) := by
  simp only [mWs, List.getElem?_mapIdx, h, Option.map_some]
theorem mCell_congr {ad : Nat → Nat} {cA : Nat → ClassId} {σ τ : mSt} {k : Nat} {sh : mSh} (h1 : σ.1 k = τ.1 k) (h2 : σ.2 k = τ.2 k) : mCell ad cA σ k sh = mCell ad cA τ k sh := by
  unfold mCell mFld
  rw [h1, h2]
theorem mWs_upd {ad : Nat → Nat} {cA : Nat → ClassId} {σ τ : mSt} {o : Nat} {sh : mSh} (h : mS0[o]? = some sh) (h1 : ∀ k, k ≠ o → τ.1 k = σ.1 k) (h2 : ∀ k, k ≠ o → τ.2 k = σ.2 k) : (mWs ad cA σ).set o (ad o, mCell ad cA τ o sh) = mWs ad cA τ := by
  apply List.ext_getElem?
  intro j
  have hl : o < (mWs ad cA σ).length := (List.getElem?_eq_some_iff.mp (mWs_at h)).1
  by_cases hj : j = o
  · subst hj
    rw [List.getElem?_set_self hl, mWs_at h]
  · rw [List.getElem?_set_ne (Ne.symm hj)]
    simp only [mWs, List.getElem?_mapIdx]
    cases mS0[j]? with
    | none => rfl
    | some q => simp only [Option.map_some]; rw [mCell_congr (h1 j hj).symm (h2 j hj).symm]
theorem sI_1 {σ : mSt} {o k : Nat} {v : Int32} {j : Nat} (h : j ≠ o) : (sI σ o k v).1 j = σ.1 j := by
  funext b; simp [sI, h]
theorem sL_2 {σ : mSt} {o k : Nat} {v : Int64} {j : Nat} (h : j ≠ o) : (sL σ o k v).2 j = σ.2 j := by
  funext b; simp [sL, h]
theorem sI_u {σ : mSt} {o k : Nat} {v : Int32} : (sI σ o k v).1 o = upd (σ.1 o) k v := by
  funext b; simp [sI, upd]
theorem sL_u {σ : mSt} {o k : Nat} {v : Int64} : (sL σ o k v).2 o = vp_updL (σ.2 o) k v := by
  funext b; simp [sL, vp_updL]
theorem cpI_1 {σ : mSt} {a b sp dp n j : Nat} (h : j ≠ b) : (cpI σ a b sp dp n).1 j = σ.1 j := by
  funext k; simp [cpI, h]
theorem cpL_2 {σ : mSt} {a b sp dp n j : Nat} (h : j ≠ b) : (cpL σ a b sp dp n).2 j = σ.2 j := by
  funext k; simp [cpL, h]
theorem cpI_u {σ : mSt} {a b sp dp n : Nat} : (cpI σ a b sp dp n).1 b = va_cpy (σ.1 a) (σ.1 b) sp dp n := by
  funext k; simp [cpI]
theorem cpL_u {σ : mSt} {a b sp dp n : Nat} : (cpL σ a b sp dp n).2 b = va_cpy (σ.2 a) (σ.2 b) sp dp n := by
  funext k; simp [cpL]
theorem mCell_i {ad : Nat → Nat} {cA : Nat → ClassId} {σ : mSt} {k t n : Nat} {fl : List Nat} (h : t < 3) : mCell ad cA σ k (t, n, fl) = .inl (cA k, n, .inl (σ.1 k)) := if_pos h
theorem mCell_l {ad : Nat → Nat} {cA : Nat → ClassId} {σ : mSt} {k n : Nat} {fl : List Nat} : mCell ad cA σ k (3, n, fl) = .inl (cA k, n, .inr (.inl (σ.2 k))) := rfl
theorem mCell_q {ad : Nat → Nat} {cA : Nat → ClassId} {σ : mSt} {k n : Nat} {fl : List Nat} : mCell ad cA σ k (4, n, fl) = .inl (cA k, n, .inr (.inr (.inr (.inr (fun j => (fl[j]?).map ad))))) := rfl
theorem mCell_o {ad : Nat → Nat} {cA : Nat → ClassId} {σ : mSt} {k n : Nat} {fl : List Nat} : mCell ad cA σ k (5, n, fl) = .inr (n, fl.mapIdx (fun j e => mFld ad σ k j e)) := rfl
theorem mFl_at {ad : Nat → Nat} {σ : mSt} {o k e : Nat} {fl : List Nat} (h : fl[k]? = some e) : (fl.mapIdx (fun j e => mFld ad σ o j e))[k]? = some (mFld ad σ o k e) := by
  simp only [List.getElem?_mapIdx, h, Option.map_some]
theorem mFl_setI {ad : Nat → Nat} {σ : mSt} {o k : Nat} {v : Int32} {fl : List Nat} (h : fl[k]? = some 0) : (fl.mapIdx (fun j e => mFld ad σ o j e)).set k (.int v) = fl.mapIdx (fun j e => mFld ad (sI σ o k v) o j e) := by
  apply List.ext_getElem?
  intro j
  have hl : k < (fl.mapIdx (fun j e => mFld ad σ o j e)).length := (List.getElem?_eq_some_iff.mp (mFl_at h)).1
  by_cases hj : j = k
  · subst hj
    rw [List.getElem?_set_self hl, mFl_at h]
    simp [mFld, sI]
  · rw [List.getElem?_set_ne (Ne.symm hj)]
    simp only [List.getElem?_mapIdx]
    cases fl[j]? with
    | none => rfl
    | some e =>
      simp only [Option.map_some]
      match e with
      | 0 => simp [mFld, sI, hj]
      | 1 => simp [mFld, sI]
      | r + 2 => rfl
theorem mFl_setL {ad : Nat → Nat} {σ : mSt} {o k : Nat} {v : Int64} {fl : List Nat} (h : fl[k]? = some 1) : (fl.mapIdx (fun j e => mFld ad σ o j e)).set k (.long v) = fl.mapIdx (fun j e => mFld ad (sL σ o k v) o j e) := by
  apply List.ext_getElem?
  intro j
  have hl : k < (fl.mapIdx (fun j e => mFld ad σ o j e)).length := (List.getElem?_eq_some_iff.mp (mFl_at h)).1
  by_cases hj : j = k
  · subst hj
    rw [List.getElem?_set_self hl, mFl_at h]
    simp [mFld, sL]
  · rw [List.getElem?_set_ne (Ne.symm hj)]
    simp only [List.getElem?_mapIdx]
    cases fl[j]? with
    | none => rfl
    | some e =>
      simp only [Option.map_some]
      match e with
      | 0 => simp [mFld, sL]
      | 1 => simp [mFld, sL, hj]
      | r + 2 => rfl
def mTyA (t : Nat) : FieldType := match t with
  | 0 => .int
  | 1 => .byte
  | 2 => .boolean
  | 3 => .long
  | _ => .object "PaperBread$Town"
def mExt (ad : Nat → Nat) (A : Nat → Prop) (E : mEn) (U : State) (H : Heap) : Prop := va_X (ad 1000) E.1 E.2 U H ∧ ad 1000 < H.size ∧ ¬ A (ad 1000) ∧ va_X (ad 1001) 4 mStarts U H ∧ ad 1001 < H.size ∧ ¬ A (ad 1001) ∧ va_Z "PaperBread$Names" "STARTS" "[I" (.ref (ad 1001)) A U H
def mTys (tys : List (ClassId × FieldType)) (cA : Nat → ClassId) : Prop := ∀ (k : Nat) (sh : mSh), mS0[k]? = some sh → sh.1 < 5 → ∃ t0 : Nat, tys[t0]? = some (cA k, mTyA sh.1)
def mWd (D : va_G) (tys : List (ClassId × FieldType)) (ad : Nat → Nat) (cA : Nat → ClassId) (A : Nat → Prop) (E : mEn) (σ : mSt) (U : State) : Prop := va_P D vwCl (mWs ad cA σ) U.heap ∧ va_D A (mWs ad cA σ) ∧ va_K D vwCl tys U ∧ mTys tys cA ∧ mExt ad A E U U.heap
def mWo (D : va_G) (ad : Nat → Nat) (cA : Nat → ClassId) (A : Nat → Prop) (H0 : Heap) (σ : mSt) (H : Heap) (locs : List Loc) : Prop := va_P D vwCl (mWs ad cA σ) H ∧ va_D A (mWs ad cA σ) ∧ va_S A H0 H locs
def mLoc (ad : Nat → Nat) (n : Nat) (ls : List Value) (lsr : Array Slot) : Prop := ls.length = n ∧ lsr.size = n ∧ lv_wf lsr ∧ ∀ (i : Nat) (v : Value), ls[i]? = some v → kn v = true → lsr[i]? = some (.val (cv ad v))
def mCx (p : Program) (R : Room) (s : State) (m : MethodId) (args : Array Value) (c : Code) (cells slots : Nat) (D : va_G) (tys : List (ClassId × FieldType)) (ad : Nat → Nat) (cA : Nat → ClassId) (A : Nat → Prop) (E : mEn) (M : mM) : Prop :=
  p.tables.exec = Jvm.exec ∧ c.code = mC M ∧ c.maxLocals = mL M ∧ s.vm.findClass (mY M).cls = some m.cls ∧ mCN[mK M]? = some (mY M).cls ∧ (∀ w ∈ mTB, w.before args s = true) ∧ va_K D vwCl tys s ∧ mTys tys cA ∧ mExt ad A E s s.heap ∧ cells ≤ R.cells ∧ slots ≤ R.slots ∧ 1 ≤ R.frames ∧ 64 ≤ R.locals
def mAs (ad : Nat → Nat) (ls : List Value) : List (Nat × Value) := (List.range ls.length).filterMap (fun i => match ls[i]? with
  | some v => if kn v = true then some (i, cv ad v) else none
  | none => none)
theorem mAs_mem {ad : Nat → Nat} {ls : List Value} {i : Nat} {v : Value} (h : ls[i]? = some v) (hk : kn v = true) : (i, cv ad v) ∈ mAs ad ls := by
  refine List.mem_filterMap.mpr ⟨i, List.mem_range.mpr (List.getElem?_eq_some_iff.mp h).1, ?_⟩
  simp [h, hk]
theorem mAs_of {ad : Nat → Nat} {ls : List Value} {q : Nat × Value} (h : q ∈ mAs ad ls) : ∃ v, ls[q.1]? = some v ∧ kn v = true ∧ q.2 = cv ad v := by
  obtain ⟨i, -, hi⟩ := List.mem_filterMap.mp h
  cases hv : ls[i]? with
  | none => rw [hv] at hi; cases hi
  | some v =>
    rw [hv] at hi
    by_cases hk : kn v = true
    · simp only [hk, if_true, Option.some.injEq] at hi
      subst hi
      exact ⟨v, hv, hk, rfl⟩
    · simp [hk] at hi
theorem mLoc_has {ad : Nat → Nat} {n : Nat} {ls : List Value} {lsr : Array Slot} (h : mLoc ad n ls lsr) : lv_has lsr n (mAs ad ls) := by
  refine ⟨h.2.1, h.2.2.1, fun q hq => ?_⟩
  obtain ⟨v, h1, h2, h3⟩ := mAs_of hq
  rw [h3]
  exact h.2.2.2 _ _ h1 h2
theorem lst1_len : ∀ (ls : List Value) (i : Nat) (v : Value), (lst1 ls i v).length = ls.length
  | [], _, _ => rfl
  | _ :: _, 0, _ => rfl
  | _ :: t, 1, v => by simp only [lst1, List.length_cons]; rw [lst1_len t 0 v]
  | _ :: t, n + 2, v => by simp only [lst1, List.length_cons]; rw [lst1_len t (n + 1) v]
theorem lst1_get : ∀ (ls : List Value) (i : Nat) (v : Value) (j : Nat) (w : Value), (lst1 ls i v)[j]? = some w → (j = i ∧ w = v) ∨ (j + 1 = i ∧ ∃ u, ls[j]? = some u ∧ w = clr u) ∨ (j ≠ i ∧ j + 1 ≠ i ∧ ls[j]? = some w)
  | [], _, _, j, w, h => by simp [lst1] at h
  | a :: t, 0, v, j, w, h => by
    cases j with
    | zero => simp [lst1] at h; exact Or.inl ⟨rfl, h.symm⟩
    | succ j => simp [lst1] at h; exact Or.inr (Or.inr ⟨by omega, by omega, by simpa using h⟩)
  | a :: t, 1, v, j, w, h => by
    cases j with
    | zero => simp [lst1] at h; exact Or.inr (Or.inl ⟨rfl, a, by simp, h.symm⟩)
    | succ j =>
      simp only [lst1, List.getElem?_cons_succ] at h
      rcases lst1_get t 0 v j w h with ⟨h1, h2⟩ | ⟨h1, -⟩ | ⟨h1, h2, h3⟩
      · exact Or.inl ⟨by omega, h2⟩
      · omega
      · exact Or.inr (Or.inr ⟨by omega, by omega, by simpa using h3⟩)
  | a :: t, n + 2, v, j, w, h => by
    cases j with
    | zero => simp [lst1] at h; exact Or.inr (Or.inr ⟨by omega, by omega, by simp [h]⟩)
    | succ j =>
      simp only [lst1, List.getElem?_cons_succ] at h
      rcases lst1_get t (n + 1) v j w h with ⟨h1, h2⟩ | ⟨h1, u, h2, h3⟩ | ⟨h1, h2, h3⟩
      · exact Or.inl ⟨by omega, h2⟩
      · exact Or.inr (Or.inl ⟨by omega, u, by simpa using h2, h3⟩)
      · exact Or.inr (Or.inr ⟨by omega, by omega, by simpa using h3⟩)
theorem clr_kn {u : Value} (h : kn (clr u) = true) : clr u = u ∧ u.category = 1 := by cases u <;> simp [clr, kn, Value.category] at h ⊢
/-- behind a store of one word -/
theorem mLoc_st1 {ad : Nat → Nat} {n i : Nat} {v : Value} {ls : List Value} {lsr lsr' : Array Slot} (h : mLoc ad n ls lsr) (h' : lv_has lsr' n ((i, cv ad v) :: (mAs ad ls).filter (fun q => !(q.1 == i) && !(q.1 + 1 == i && q.2.category == 2)))) : mLoc ad n (lst1 ls i v) lsr' := by
  refine ⟨by rw [lst1_len]; exact h.1, h'.1, h'.2.1, fun j w hj hk => ?_⟩
  rcases lst1_get ls i v j w hj with ⟨h1, h2⟩ | ⟨h1, u, h2, h3⟩ | ⟨h1, h2, h3⟩
  · subst h1; subst h2
    exact h'.2.2 (j, cv ad w) List.mem_cons_self
  · subst h3
    obtain ⟨e1, e2⟩ := clr_kn hk
    rw [e1] at hk ⊢
    refine h'.2.2 (j, cv ad u) (List.mem_cons_of_mem _ (List.mem_filter.mpr ⟨mAs_mem h2 hk, ?_⟩))
    have h4 : j ≠ i := by omega
    simp [h4, cv_cat, e2]
  · refine h'.2.2 (j, cv ad w) (List.mem_cons_of_mem _ (List.mem_filter.mpr ⟨mAs_mem h3 hk, ?_⟩))
    simp [h1, h2]
theorem mLoc_st2 {ad : Nat → Nat} {n i : Nat} {v : Value} {ls : List Value} {lsr lsr' : Array Slot} (h : mLoc ad n ls lsr) (h' : lv_has lsr' n ((i, cv ad v) :: (mAs ad ls).filter (fun q => !(q.1 == i) && (!(q.1 == i + 1) && !(q.1 + 1 == i && q.2.category == 2))))) : mLoc ad n (lst2 ls i v) lsr' := by
  refine ⟨by rw [lst2, List.length_set, lst1_len]; exact h.1, h'.1, h'.2.1, fun j w hj hk => ?_⟩
  unfold lst2 at hj
  by_cases hj1 : j = i + 1
  · subst hj1
    rw [List.getElem?_set] at hj
    simp only [if_true] at hj
    split at hj
    · cases hj; simp [kn] at hk
    · cases hj
  rw [List.getElem?_set_ne (Ne.symm hj1)] at hj
  rcases lst1_get ls i v j w hj with ⟨h1, h2⟩ | ⟨h1, u, h2, h3⟩ | ⟨h1, h2, h3⟩
  · subst h1; subst h2
    exact h'.2.2 (j, cv ad w) List.mem_cons_self
  · subst h3
    obtain ⟨e1, e2⟩ := clr_kn hk
    rw [e1] at hk ⊢
    refine h'.2.2 (j, cv ad u) (List.mem_cons_of_mem _ (List.mem_filter.mpr ⟨mAs_mem h2 hk, ?_⟩))
    have h4 : j ≠ i := by omega
    simp [h4, hj1, cv_cat, e2]
  · refine h'.2.2 (j, cv ad w) (List.mem_cons_of_mem _ (List.mem_filter.mpr ⟨mAs_mem h3 hk, ?_⟩))
    simp [h1, h2, hj1]
theorem mOut_in {j : Int32} {n : Nat} (h : ¬ mOut j n = true) : vp_in j n := by
  intro h2
  apply h
  simp only [mOut, Bool.or_eq_true, decide_eq_true_eq]
  exact h2
theorem cats_cv (ad : Nat → Nat) (st : List Value) : ((st.map (cv ad)).map fun v => v.category).sum = cats st := by
  unfold cats
  rw [List.map_map]
  congr 1
  apply List.map_congr_left
  intro v _
  exact cv_cat ad v
