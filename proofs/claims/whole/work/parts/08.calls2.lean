theorem doCall_inv {M' M2 : mM} {vs v2 : List Value} {i i' : Nat} {ls ls' st st' : List Value} (h : doCall M' vs i ls st = some (.inr (.inl (M2, v2, i', ls', st')))) : M2 = M' ∧ v2 = vs ∧ i' = i ∧ ls' = ls ∧ st' = st ∧ (xpd vs).length ≤ mL M' ∧ cats st ≤ 8 := by
  unfold doCall at h
  split at h
  · rename_i hc
    cases h
    exact ⟨rfl, rfl, rfl, rfl, rfl, hc.1, hc.2⟩
  · cases h
theorem mObj : ∀ sh ∈ mS0, sh.1 = 5 → sh.2.1 < 12 := by decide +kernel
theorem mObjN : ∀ {ci : Nat}, ci < 12 → ∃ q : vw_C, vwCl[ci]? = some q ∧ mCN[ci]? = some q.1
  | 0, _ => ⟨_, rfl, rfl⟩
  | 1, _ => ⟨_, rfl, rfl⟩
  | 2, _ => ⟨_, rfl, rfl⟩
  | 3, _ => ⟨_, rfl, rfl⟩
  | 4, _ => ⟨_, rfl, rfl⟩
  | 5, _ => ⟨_, rfl, rfl⟩
  | 6, _ => ⟨_, rfl, rfl⟩
  | 7, _ => ⟨_, rfl, rfl⟩
  | 8, _ => ⟨_, rfl, rfl⟩
  | 9, _ => ⟨_, rfl, rfl⟩
  | 10, _ => ⟨_, rfl, rfl⟩
  | 11, _ => ⟨_, rfl, rfl⟩
  | n + 12, h => absurd h (by omega)
section CALL2
variable {p : Program} {l : Launch} {e : Env} {R : Room} {s : State} {m : MethodId} {args : Array Value} {below : List Frame} {meth : Method} {c : Code} {cells slots : Nat} {Qm : State → Prop} {D : va_G} {tys : List (ClassId × FieldType)} {ad : Nat → Nat} {cA : Nat → ClassId} {A : Nat → Prop} {E : mEn} {M : mM} {i i' : Nat} {ls st ls' st' : List Value} {σ σ' : mSt}
theorem mGood {M' : mM} {idx : Nat} {z : mZ} (hz : mRz (mK M) idx = some z) (hcn : mCN[mK M]? = some (mY M).cls) (hm : Cond.code (mY M') (mC M') (mL M') (mR M') ∈ mNeed (mY M).cls idx z) : GoodIn mTB (mW M') := by
  intro w hw
  have hw2 : w ∈ mTB := by
    rcases List.mem_cons.mp hw with h | h
    · subst h
      refine (mRz_ok hz).1 _ ?_
      rw [mOwn hcn]
      exact hm
    · exact h
  exact ⟨hw2, mTB_good hw2⟩
theorem mCallB (C : mCx p R s m args c cells slots D tys ad cA A E M) {M' : mM} {n d idx : Nat} {b0 : Bool} (hz : mRz (mK M) idx = some (.inr (.inl (b0, M', n)))) (hfr : d + 2 ≤ R.frames) (hlo : 64 * (d + 2) ≤ R.locals) : CallB R s args (mY M).cls idx (mY M') (mC M') (mL M') (mR M') (mW M') (mRoom d) 0 0 n := by
  obtain ⟨hx, hb, hml, hown, hcn, hts, hK, hTy, hEx, hce, hsl, -, -⟩ := C
  obtain ⟨-, hs⟩ := mRz_ok hz
  obtain ⟨h1, h2, h3, h4⟩ : mSane M' n := hs
  obtain ⟨-, q1, q2⟩ := mCN_ok h1 h2
  have hin : ∀ w, (w = Cond.methodLink (mY M).cls idx (mY M') ∨ w = Cond.initialized (mY M').cls ∨ w = Cond.code (mY M') (mC M') (mL M') (mR M')) → w ∈ mNeed (mY M).cls idx (.inr (.inl (b0, M', n))) := by
    intro w hw
    cases b0 <;> (simp only [mNeed, List.mem_cons]; rcases hw with h | h | h <;> simp [h])
  refine callB_of n hts (mGood hz hcn (hin _ (Or.inr (Or.inr rfl)))) rfl rfl rfl (mWord hcn hts hz (hin _ (Or.inr (Or.inl rfl)))) (mWord hcn hts hz (hin _ (Or.inl rfl))) ⟨q1, q2, h3⟩ ⟨?_, ?_⟩
  · show d + 1 + 1 ≤ R.frames
    exact hfr
  · show 8 + (mL M' + 11) + 64 * (d + 1) ≤ R.locals
    omega
theorem g_callS (C : mCx p R s m args c cells slots D tys ad cA A E M) {idx d : Nat} {M' : mM} {vs : List Value} {P : mPost} (hd : decode (mC M) i = .ok (.invokestatic idx, 3)) (h : doStat M idx i ls st σ = some (.inr (.inl (M', vs, i', ls', st')))) (hfr : d + 2 ≤ R.frames) (hlo : 64 * (d + 2) ≤ R.locals)
    (hM : Met l (mY M') (mW M') (mRoom d) (va_Pc (vs.map (cv ad)) (mWd D tys ad cA A E σ)) (mQc D tys ad cA A E P) 0 0 A) (k : ∀ r σ', P r σ' → mG p l e R s m args below meth c cells slots Qm D ad cA A M i' ls' (r.toList ++ st') σ') : mG p l e R s m args below meth c cells slots Qm D ad cA A M i ls st σ := by
  intro H locs lsr hw hl
  unfold doStat at h
  split at h
  · rename_i M2 n hz
    split at h
    · rename_i hlen
      obtain ⟨rfl, rfl, rfl, rfl, rfl, hx1, hx2⟩ := doCall_inv h
      have hcb := mCallB C hz hfr hlo
      have C0 := C
      obtain ⟨hx, hb, hml, hown, hcn, hts, hK, hTy, hEx, hce, hsl, -, -⟩ := C
      refine g_ran (M' := M') (vs := (st.take n).reverse) (st' := st.drop n) (rest := (st.drop n).map (cv ad)) (va_runS (As := (st.take n).reverse.map (cv ad)) ⟨hx, hb, hml, hown, hts⟩ hM ⟨hcb, mWord hcn hts hz (by simp [mNeed])⟩ ⟨mWd_blind, fun U hU hW => ⟨rfl, mWd_of C0 hw hU hW.alike⟩⟩ rfl ?_ hl.2.1 ?_ (lv_room (by rw [cats_cv]; exact hx2)) hd ⟨hce, hsl⟩) hw rfl hl k
      · rw [List.length_map, List.length_reverse]; exact hlen
      · rw [← List.map_reverse, List.reverse_reverse, ← List.map_append, List.take_append_drop]
    · cases h
  · unfold doCopy at h
    (repeat' split at h) <;> cases h
  all_goals ((repeat' split at h) <;> cases h)
theorem g_callV (C : mCx p R s m args c cells slots D tys ad cA A E M) {idx d : Nat} {M' : mM} {vs : List Value} {P : mPost} (hd : decode (mC M) i = .ok (.invokevirtual idx, 3)) (h : doVirt M idx i ls st = some (.inr (.inl (M', vs, i', ls', st')))) (hfr : d + 2 ≤ R.frames) (hlo : 64 * (d + 2) ≤ R.locals)
    (hM : Met l (mY M') (mW M') (mRoom d) (va_Pc (vs.map (cv ad)) (mWd D tys ad cA A E σ)) (mQc D tys ad cA A E P) 0 0 A) (k : ∀ r σ', P r σ' → mG p l e R s m args below meth c cells slots Qm D ad cA A M i' ls' (r.toList ++ st') σ') : mG p l e R s m args below meth c cells slots Qm D ad cA A M i ls st σ := by
  intro H locs lsr hw hl
  unfold doVirt at h
  split at h
  · rename_i M2 n hz
    split at h
    · rename_i b0 st0 hst
      split at h
      · rename_i ci fl hS
        split at h
        · rename_i hc
          obtain ⟨hci, hlen⟩ := hc
          obtain ⟨rfl, rfl, rfl, rfl, rfl, hx1, hx2⟩ := doCall_inv h
          have hcb := mCallB C hz hfr hlo
          have C0 := C
          obtain ⟨hx, hb, hml, hown, hcn, hts, hK, hTy, hEx, hce, hsl, -, -⟩ := C
          obtain ⟨-, hs⟩ := mRz_ok hz
          obtain ⟨h1, h2, h3, h4⟩ : mSane M' n := hs
          subst hci
          obtain ⟨q, hq1, hq2⟩ := mObjN (mObj _ (List.mem_of_getElem? hS) rfl)
          dsimp only at hq1 hq2
          have hq3 : q.1 = (mY M').cls := by rw [h1] at hq2; exact (Option.some.inj hq2).symm
          have he : (mWs ad cA σ)[b0]? = some (ad b0, .inr (mK M', fl.mapIdx (fun j e => mFld ad σ b0 j e))) := (mWs_at hS).trans (by rw [mCell_o])
          have hrec := va_recv hK hw.1 hq1 he
          rw [hq3] at hrec
          refine g_ran (M' := M') (vs := .ref b0 :: (st.take n).reverse) (st' := st') (rest := st'.map (cv ad)) (va_runV (b := ad b0) (As := (st.take n).reverse.map (cv ad)) ⟨hx, hb, hml, hown, hts⟩ hM ⟨hcb, mWord hcn hts hz (by simp [mNeed]), mWord hcn hts hz (by simp [mNeed])⟩ ⟨mWd_blind, hrec, fun U hU hW => ⟨rfl, mWd_of C0 hw hU hW.alike⟩⟩ rfl ?_ hl.2.1 ?_ (lv_room (by rw [cats_cv]; exact hx2)) hd ⟨hce, hsl⟩) hw rfl hl k
          · rw [List.length_map, List.length_reverse]; exact hlen
          · show st.map (cv ad) = _
            rw [← List.map_reverse, List.reverse_reverse]
            conv => lhs; rw [← List.take_append_drop n st, hst]
            rw [List.map_append]
            rfl
        · cases h
      · cases h
    · cases h
  · cases h
end CALL2
