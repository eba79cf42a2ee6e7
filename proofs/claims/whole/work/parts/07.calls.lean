def noCall : mRes → Prop
  | some (.inr _) => False
  | _ => True
theorem ex_nx {cs : mCS} {Q : mPost} {X : Nat → List Value → List Value → mSt → Prop} {σ : mSt} {r : mRes} (hn : noCall r) (hx : exS cs Q X σ r) : ∃ i' ls' st' σ', r = some (.inl (i', ls', st', σ')) ∧ X i' ls' st' σ' := by
  match r, hn, hx with
  | some (.inl (i', ls', st', σ')), _, hx => exact ⟨i', ls', st', σ', rfl, hx⟩
theorem nc_nx {i : Nat} {ls st : List Value} {σ : mSt} : noCall (nx i ls st σ) := trivial
theorem nc_jp {i : Nat} {off : Int} {ls st : List Value} {σ : mSt} : noCall (jp i off ls st σ) := by unfold jp; split <;> trivial
theorem nc_br {i : Nat} {off : Int} {q : Prop} [Decidable q] {ls st : List Value} {σ : mSt} : noCall (br i off q ls st σ) := by unfold br; split <;> trivial
theorem nc_ldI {i k : Nat} {ls st : List Value} {σ : mSt} : noCall (ldI i k ls st σ) := by unfold ldI; (repeat' split) <;> trivial
theorem nc_ldJ {i k : Nat} {ls st : List Value} {σ : mSt} : noCall (ldJ i k ls st σ) := by unfold ldJ; (repeat' split) <;> trivial
theorem nc_ldA {i k : Nat} {ls st : List Value} {σ : mSt} : noCall (ldA i k ls st σ) := by unfold ldA; (repeat' split) <;> trivial
theorem nc_stI {i k : Nat} {ls st : List Value} {σ : mSt} : noCall (stI i k ls st σ) := by unfold stI; (repeat' split) <;> trivial
theorem nc_stA {i k : Nat} {ls st : List Value} {σ : mSt} : noCall (stA i k ls st σ) := by unfold stA; (repeat' split) <;> trivial
theorem nc_stJ {i k : Nat} {ls st : List Value} {σ : mSt} : noCall (stJ i k ls st σ) := by unfold stJ; (repeat' split) <;> trivial
theorem nc_doIinc {i k : Nat} {n : Int} {ls st : List Value} {σ : mSt} : noCall (doIinc i k n ls st σ) := by unfold doIinc; (repeat' split) <;> trivial
theorem nc_doLdc {M : mM} {i k : Nat} {ls st : List Value} {σ : mSt} : noCall (doLdc M k i ls st σ) := by unfold doLdc; (repeat' split) <;> trivial
theorem nc_doLdc2 {M : mM} {i k : Nat} {ls st : List Value} {σ : mSt} : noCall (doLdc2 M k i ls st σ) := by unfold doLdc2; (repeat' split) <;> trivial
theorem nc_o2 {f : Int32 → Int32 → Int32} {i : Nat} {ls st : List Value} {σ : mSt} : noCall (o2 f i ls st σ) := by unfold o2; (repeat' split) <;> trivial
theorem nc_o2d {f : Int32 → Int32 → Int32} {i : Nat} {ls st : List Value} {σ : mSt} : noCall (o2d f i ls st σ) := by unfold o2d; (repeat' split) <;> trivial
theorem nc_p2 {f : Int64 → Int64 → Int64} {i : Nat} {ls st : List Value} {σ : mSt} : noCall (p2 f i ls st σ) := by unfold p2; (repeat' split) <;> trivial
theorem nc_p2d {f : Int64 → Int64 → Int64} {i : Nat} {ls st : List Value} {σ : mSt} : noCall (p2d f i ls st σ) := by unfold p2d; (repeat' split) <;> trivial
theorem nc_o1 {f : Int32 → Value} {i : Nat} {ls st : List Value} {σ : mSt} : noCall (o1 f i ls st σ) := by unfold o1; (repeat' split) <;> trivial
theorem nc_p1 {f : Int64 → Value} {i : Nat} {ls st : List Value} {σ : mSt} : noCall (p1 f i ls st σ) := by unfold p1; (repeat' split) <;> trivial
theorem nc_doShl {i : Nat} {ls st : List Value} {σ : mSt} : noCall (doShl i ls st σ) := by unfold doShl; (repeat' split) <;> trivial
theorem nc_doLcmp {i : Nat} {ls st : List Value} {σ : mSt} : noCall (doLcmp i ls st σ) := by unfold doLcmp; (repeat' split) <;> trivial
theorem nc_doNull {i : Nat} {ls st : List Value} {σ : mSt} : noCall (doNull i ls st σ) := by unfold doNull; (repeat' split) <;> trivial
theorem nc_doDup {i : Nat} {ls st : List Value} {σ : mSt} : noCall (doDup i ls st σ) := by unfold doDup; (repeat' split) <;> trivial
theorem nc_doDup2 {i : Nat} {ls st : List Value} {σ : mSt} : noCall (doDup2 i ls st σ) := by unfold doDup2; (repeat' split) <;> trivial
theorem nc_doPop {i : Nat} {ls st : List Value} {σ : mSt} : noCall (doPop i ls st σ) := by unfold doPop; (repeat' split) <;> trivial
theorem nc_doLen {E : mEn} {i : Nat} {ls st : List Value} {σ : mSt} : noCall (doLen E i ls st σ) := by unfold doLen; (repeat' split) <;> trivial
theorem nc_doAld {E : mEn} {i : Nat} {ls st : List Value} {σ : mSt} : noCall (doAld E i ls st σ) := by unfold doAld; (repeat' split) <;> trivial
theorem nc_doAst {i : Nat} {ls st : List Value} {σ : mSt} : noCall (doAst i ls st σ) := by unfold doAst; (repeat' split) <;> trivial
theorem nc_doBld {i : Nat} {ls st : List Value} {σ : mSt} : noCall (doBld i ls st σ) := by unfold doBld; (repeat' split) <;> trivial
theorem nc_doBst {i : Nat} {ls st : List Value} {σ : mSt} : noCall (doBst i ls st σ) := by unfold doBst; (repeat' split) <;> trivial
theorem nc_doLld {i : Nat} {ls st : List Value} {σ : mSt} : noCall (doLld i ls st σ) := by unfold doLld; (repeat' split) <;> trivial
theorem nc_doLst {i : Nat} {ls st : List Value} {σ : mSt} : noCall (doLst i ls st σ) := by unfold doLst; (repeat' split) <;> trivial
theorem nc_doQld {i : Nat} {ls st : List Value} {σ : mSt} : noCall (doQld i ls st σ) := by unfold doQld; (repeat' split) <;> trivial
theorem nc_doGet {M : mM} {i k : Nat} {ls st : List Value} {σ : mSt} : noCall (doGet M k i ls st σ) := by unfold doGet; (repeat' split) <;> trivial
theorem nc_doPut {M : mM} {i k : Nat} {ls st : List Value} {σ : mSt} : noCall (doPut M k i ls st σ) := by unfold doPut; (repeat' split) <;> trivial
theorem nc_doGets {M : mM} {i k : Nat} {ls st : List Value} {σ : mSt} : noCall (doGets M k i ls st σ) := by unfold doGets; (repeat' split) <;> trivial
theorem nc_doCopy {i : Nat} {ls st : List Value} {σ : mSt} : noCall (doCopy i ls st σ) := by unfold doCopy; (repeat' split) <;> trivial
theorem nc_doIf {i : Nat} {q : ClassFile.Cond} {off : Int} {ls st : List Value} {σ : mSt} : noCall (doIf i q off ls st σ) := by unfold doIf; split; exact nc_br; trivial
theorem nc_doIf2 {i : Nat} {q : ClassFile.Cond} {off : Int} {ls st : List Value} {σ : mSt} : noCall (doIf2 i q off ls st σ) := by unfold doIf2; split; exact nc_br; trivial
theorem nc_doSw {i : Nat} {d lo hi : Int} {offs : Array Int} {ls st : List Value} {σ : mSt} : noCall (doSw i d lo hi offs ls st σ) := by
  unfold doSw
  split
  · split
    · exact nc_jp
    · split
      · exact nc_jp
      · trivial
  · trivial
theorem nc_doLk {i : Nat} {d : Int} {ps : Array (Int × Int)} {ls st : List Value} {σ : mSt} : noCall (doLk i d ps ls st σ) := by
  unfold doLk
  split
  · split
    · exact nc_jp
    · trivial
  · trivial
theorem nfw : nativeFrameWords "java/lang/System" "arraycopy" 5 ≤ 30 := by decide +kernel
section CALLS
variable {p : Program} {l : Launch} {e : Env} {R : Room} {s : State} {m : MethodId} {args : Array Value} {below : List Frame} {meth : Method} {c : Code} {cells slots : Nat} {Qm : State → Prop} {D : va_G} {tys : List (ClassId × FieldType)} {ad : Nat → Nat} {cA : Nat → ClassId} {A : Nat → Prop} {E : mEn} {M : mM} {i i' : Nat} {ls st ls' st' : List Value} {σ σ' : mSt}
theorem g_copy (C : mCx p R s m args c cells slots D tys ad cA A E M) {idx : Nat} (hz : mRz (mK M) idx = some (.inr (.inr (.inr (.inr 0))))) (hd : decode (mC M) i = .ok (.invokestatic idx, 3)) (h : doCopy i ls st σ = some (.inl (i', ls', st', σ'))) (k : mG p l e R s m args below meth c cells slots Qm D ad cA A M i' ls' st' σ') : mG p l e R s m args below meth c cells slots Qm D ad cA A M i ls st σ := by
  obtain ⟨hx, hb, hml, hown, hcn, hts, hK, hTy, hEx, hce, hsl, hfr, hlo⟩ := C
  intro H locs lsr hw hl
  unfold doCopy at h
  split at h
  · rename_i n dp b0 sp a0 st0
    split at h
    · cases h
    · rename_i hneg
      have hcat : cats st0 ≤ 8 := by
        rcases Nat.lt_or_ge 8 (cats st0) with q | q
        · exact absurd (Or.inr (Or.inr (Or.inr q))) hneg
        · exact q
      split at h
      · rename_i ta na fa tb nb fb hSa hSb
        split at h
        · rename_i hbd
          obtain ⟨hab, hbd1⟩ := id hbd
          subst hab
          split at h
          · rename_i ht
            subst ht
            obtain ⟨rfl, rfl, rfl, rfl⟩ := nx_inv h
            obtain ⟨ta0, hta⟩ := hTy _ _ hSa (by dsimp only; omega)
            obtain ⟨tb0, htb⟩ := hTy _ _ hSb (by dsimp only; omega)
            refine va_copyi (n0 := na) (n1 := nb) (f := σ.1 a0) (g := σ.1 b0) hx hb (hml.trans hl.2.1.symm) hown (mWord hcn hts hz (by simp [mNeed])) (mWord hcn hts hz (by simp [mNeed])) (mWord hcn hts hz (by simp [mNeed])) (mWord hcn hts hz (by simp [mNeed])) hK hw.1 hw.2.1 hw.2.2 a0 b0 ta0 tb0 ((mWs_at hSa).trans (by rw [mCell_i (by decide)])) ((mWs_at hSb).trans (by rw [mCell_i (by decide)])) hta htb rfl (fun q => hneg (Or.inl q)) (fun q => hneg (Or.inr (Or.inl q))) (fun q => hneg (Or.inr (Or.inr (Or.inl q)))) hbd.2.1 hbd.2.2 (fun _ _ => rfl) hfr (by rw [cats_cv]; have := nfw; omega) hd (fun H1 locs1 hP1 hD1 hS1 => k H1 locs1 lsr ⟨?_, ?_, hS1⟩ hl)
            · rw [← mWs_upd hSb (σ := σ) (τ := cpI σ a0 b0 _ _ _) (fun q hq => cpI_1 hq) (fun q hq => rfl), mCell_i (by decide), cpI_u]; exact hP1
            · rw [← mWs_upd hSb (σ := σ) (τ := cpI σ a0 b0 _ _ _) (fun q hq => cpI_1 hq) (fun q hq => rfl), mCell_i (by decide), cpI_u]; exact hD1
          · split at h
            · rename_i ht
              subst ht
              split at h
              · rename_i hfit
                obtain ⟨rfl, rfl, rfl, rfl⟩ := nx_inv h
                obtain ⟨ta0, hta⟩ := hTy _ _ hSa (by dsimp only; omega)
                obtain ⟨tb0, htb⟩ := hTy _ _ hSb (by dsimp only; omega)
                refine va_copyi (n0 := na) (n1 := nb) (f := σ.1 a0) (g := σ.1 b0) hx hb (hml.trans hl.2.1.symm) hown (mWord hcn hts hz (by simp [mNeed])) (mWord hcn hts hz (by simp [mNeed])) (mWord hcn hts hz (by simp [mNeed])) (mWord hcn hts hz (by simp [mNeed])) hK hw.1 hw.2.1 hw.2.2 a0 b0 ta0 tb0 ((mWs_at hSa).trans (by rw [mCell_i (by decide)])) ((mWs_at hSb).trans (by rw [mCell_i (by decide)])) hta htb rfl (fun q => hneg (Or.inl q)) (fun q => hneg (Or.inr (Or.inl q))) (fun q => hneg (Or.inr (Or.inr (Or.inl q)))) hbd.2.1 hbd.2.2 (fun q hq => List.all_eq_true.mp hfit q (List.mem_range.mpr hq)) hfr (by rw [cats_cv]; have := nfw; omega) hd (fun H1 locs1 hP1 hD1 hS1 => k H1 locs1 lsr ⟨?_, ?_, hS1⟩ hl)
                · rw [← mWs_upd hSb (σ := σ) (τ := cpI σ a0 b0 _ _ _) (fun q hq => cpI_1 hq) (fun q hq => rfl), mCell_i (by decide), cpI_u]; exact hP1
                · rw [← mWs_upd hSb (σ := σ) (τ := cpI σ a0 b0 _ _ _) (fun q hq => cpI_1 hq) (fun q hq => rfl), mCell_i (by decide), cpI_u]; exact hD1
              · cases h
            · split at h
              · rename_i ht
                subst ht
                obtain ⟨rfl, rfl, rfl, rfl⟩ := nx_inv h
                obtain ⟨ta0, hta⟩ := hTy _ _ hSa (by dsimp only; omega)
                obtain ⟨tb0, htb⟩ := hTy _ _ hSb (by dsimp only; omega)
                refine va_copyl (n0 := na) (n1 := nb) (f := σ.2 a0) (g := σ.2 b0) hx hb (hml.trans hl.2.1.symm) hown (mWord hcn hts hz (by simp [mNeed])) (mWord hcn hts hz (by simp [mNeed])) (mWord hcn hts hz (by simp [mNeed])) (mWord hcn hts hz (by simp [mNeed])) hK hw.1 hw.2.1 hw.2.2 a0 b0 ta0 tb0 ((mWs_at hSa).trans (by rw [mCell_l])) ((mWs_at hSb).trans (by rw [mCell_l])) hta htb rfl (fun q => hneg (Or.inl q)) (fun q => hneg (Or.inr (Or.inl q))) (fun q => hneg (Or.inr (Or.inr (Or.inl q)))) hbd.2.1 hbd.2.2 (fun _ _ => rfl) hfr (by rw [cats_cv]; have := nfw; omega) hd (fun H1 locs1 hP1 hD1 hS1 => k H1 locs1 lsr ⟨?_, ?_, hS1⟩ hl)
                · rw [← mWs_upd hSb (σ := σ) (τ := cpL σ a0 b0 _ _ _) (fun q hq => rfl) (fun q hq => cpL_2 hq), mCell_l, cpL_u]; exact hP1
                · rw [← mWs_upd hSb (σ := σ) (τ := cpL σ a0 b0 _ _ _) (fun q hq => rfl) (fun q hq => cpL_2 hq), mCell_l, cpL_u]; exact hD1
              · cases h
        · cases h
      · cases h
  · cases h
theorem g_stat (C : mCx p R s m args c cells slots D tys ad cA A E M) {idx : Nat} (hd : decode (mC M) i = .ok (.invokestatic idx, 3)) (h : doStat M idx i ls st σ = some (.inl (i', ls', st', σ'))) (k : mG p l e R s m args below meth c cells slots Qm D ad cA A M i' ls' st' σ') : mG p l e R s m args below meth c cells slots Qm D ad cA A M i ls st σ := by
  have C0 := C
  obtain ⟨hx, hb, hml, hown, hcn, hts, hK, hTy, hEx, hce, hsl, hfr, hlo⟩ := C
  intro H locs lsr hw hl
  unfold doStat at h
  split at h
  · split at h
    · unfold doCall at h
      split at h <;> cases h
    · cases h
  · rename_i hz
    exact g_copy C0 hz hd h k H locs lsr hw hl
  · rename_i hz
    split at h
    · split at h
      · rename_i hcat
        obtain ⟨rfl, rfl, rfl, rfl⟩ := nx_inv h
        exact va_mmax hx hb (hml.trans hl.2.1.symm) hown (mWord hcn hts hz (by simp [mNeed])) (mWord hcn hts hz (by simp [mNeed])) (mWord hcn hts hz (by simp [mNeed])) (mWord hcn hts hz (by simp [mNeed])) hfr (by rw [cats_cv]; omega) hce hsl hd (k H locs lsr hw hl)
      · cases h
    · cases h
  · rename_i hz
    split at h
    · split at h
      · rename_i hcat
        obtain ⟨rfl, rfl, rfl, rfl⟩ := nx_inv h
        exact va_mmin hx hb (hml.trans hl.2.1.symm) hown (mWord hcn hts hz (by simp [mNeed])) (mWord hcn hts hz (by simp [mNeed])) (mWord hcn hts hz (by simp [mNeed])) (mWord hcn hts hz (by simp [mNeed])) hfr (by rw [cats_cv]; omega) hce hsl hd (k H locs lsr hw hl)
      · cases h
    · cases h
  · rename_i hz
    split at h
    · split at h
      · rename_i hcat
        obtain ⟨rfl, rfl, rfl, rfl⟩ := nx_inv h
        exact va_mmax_long hx hb (hml.trans hl.2.1.symm) hown (mWord hcn hts hz (by simp [mNeed])) (mWord hcn hts hz (by simp [mNeed])) (mWord hcn hts hz (by simp [mNeed])) (mWord hcn hts hz (by simp [mNeed])) hfr (by rw [cats_cv]; omega) hce hsl hd (k H locs lsr hw hl)
      · cases h
    · cases h
  · rename_i hz
    split at h
    · split at h
      · rename_i hcat
        obtain ⟨rfl, rfl, rfl, rfl⟩ := nx_inv h
        exact va_mabs_long hx hb (hml.trans hl.2.1.symm) hown (mWord hcn hts hz (by simp [mNeed])) (mWord hcn hts hz (by simp [mNeed])) (mWord hcn hts hz (by simp [mNeed])) (mWord hcn hts hz (by simp [mNeed])) hfr (by rw [cats_cv]; omega) hce hsl hd (k H locs lsr hw hl)
      · cases h
    · cases h
  · cases h
def mW (M : mM) : List Cond := Cond.code (mY M) (mC M) (mL M) (mR M) :: mTB
def mRoom (d : Nat) : Room := { frames := d + 1, cells := 0, slots := 0, locals := 64 * (d + 1) }
def mQc (D : va_G) (tys : List (ClassId × FieldType)) (ad : Nat → Nat) (cA : Nat → ClassId) (A : Nat → Prop) (E : mEn) (P : mPost) : Array Value → State → Outcome → State → Prop := fun _ st oc t => (∃ (r : Option Value) (σ' : mSt), oc = .returned (r.map (cv ad)) ∧ P r σ' ∧ mWd D tys ad cA A E σ' t) ∧ va_F A st t
theorem mTB_good {w : Cond} (h : w ∈ mTB) : (w.onTables && w.keeps) = true ∨ ∃ ty, w = .arrayClass ty := good_of_word (List.mem_filter.mp h).2
theorem mExt_kept {U : State} {H H1 : Heap} (h : mExt ad A E U H) (hz : H.size ≤ H1.size) (hq : ∀ a : Nat, a < H.size → ¬ A a → H1[a]? = H[a]?) : mExt ad A E U H1 := by
  obtain ⟨h1, h2, h3, h4, h5, h6, h7⟩ := h
  exact ⟨h1.kept (hq _ h2 h3), Nat.lt_of_lt_of_le h2 hz, h3, h4.kept (hq _ h5 h6), Nat.lt_of_lt_of_le h5 hz, h6, h7.kept hq⟩
theorem mExt_moved {u U : State} {H : Heap} (hvm : u.vm.Alike U.vm) (h : mExt ad A E u H) : mExt ad A E U H := by
  obtain ⟨h1, h2, h3, h4, h5, h6, h7⟩ := h
  exact ⟨h1.moved hvm, h2, h3, h4.moved hvm, h5, h6, h7.moved hvm⟩
theorem mWd_blind {vs : List Value} : FrameBlind (va_Pc vs (mWd D tys ad cA A E σ)) := by
  intro a U g mk h
  obtain ⟨h1, h2, h3, h4, h5, h6⟩ := h
  exact ⟨h1, h2, h3, va_K.moved (u := U) (U := U.calling g mk a) (Vm.Alike.refl U.vm) h4, h5, mExt_moved (u := U) (U := U.calling g mk a) (Vm.Alike.refl U.vm) h6⟩
theorem mWd_of (C : mCx p R s m args c cells slots D tys ad cA A E M) {H : Heap} {locs : List Loc} (hw : mWo D ad cA A s.heap σ H locs) {U : State} (hU : U.heap = H) (hA : s.vm.Alike U.vm) : mWd D tys ad cA A E σ U := by
  obtain ⟨hx, hb, hml, hown, hcn, hts, hK, hTy, hEx, hce, hsl, hfr, hlo⟩ := C
  subst hU
  exact ⟨hw.1, hw.2.1, hK.moved hA, hTy, mExt_moved hA (mExt_kept hEx hw.2.2.1 hw.2.2.2.1)⟩
/-- behind a call's run -/
theorem g_ran {M' : mM} {vs : List Value} {P : mPost} {lsr : Array Slot} {st0 rest : List Value} {H : Heap} {locs : List Loc}
    (hr : va_Run p l e R s m args below meth c H locs cells slots 0 0 (F0 m i lsr st0) rest (mQc D tys ad cA A E P (vs.map (cv ad)).toArray) A) (hw : mWo D ad cA A s.heap σ H locs) (hst : rest = st'.map (cv ad)) (hl : mLoc ad (mL M) ls lsr)
    (k : ∀ r σ', P r σ' → mG p l e R s m args below meth c cells slots Qm D ad cA A M (i + 3) ls (r.toList ++ st') σ') : W p l e R s m args below meth c H locs cells slots Qm (F0 m i lsr st0) := by
  intro T hT X
  obtain ⟨v, st₀, t, T', L, h0, X', hL, e1, e2, ⟨⟨r, σ', hv, hp, hwd⟩, hz, hk⟩, st⟩ := hr T hT X
  obtain ⟨hP1, hD1, -, -, -⟩ := hwd
  rw [h0] at hz hk
  have hS1 : va_S A s.heap T'.heap (locs ++ L) := ⟨Nat.le_trans hw.2.2.1 (by rw [e1]; exact hz), fun q h1 h2 => by rw [e1, hk q (Nat.lt_of_lt_of_le h1 hw.2.2.1) h2]; exact hw.2.2.2.1 q h1 h2, fun q hq => by
    rcases List.mem_append.mp hq with h | h
    · exact hw.2.2.2.2 q h
    · exact hL q h⟩
  obtain ⟨t2, a1, b1⟩ := k r σ' hp T'.heap (locs ++ L) lsr ⟨by rw [e1]; exact hP1, hD1, hS1⟩ hl T' rfl X'
  refine ⟨t2, st t2 ?_, b1⟩
  have hv2 : v = r.map (cv ad) := by injection hv
  have e3 : ({ F0 m i lsr st0 with pc := i + 3, stack := v.toList ++ rest } : JFrame) = F0 m (i + 3) lsr ((r.toList ++ st').map (cv ad)) := by
    subst hst; subst hv2
    cases r <;> simp [F0]
  rw [show (F0 m i lsr st0).pc + 3 = i + 3 from rfl, e3]
  exact a1
theorem mCN_ok : ∀ {k : Nat} {C : String}, mCN[k]? = some C → k ≠ 13 → plainName C = true ∧ C ≠ "java/lang/invoke/MethodHandle" ∧ C ≠ "java/lang/invoke/VarHandle"
  | 0, C, h, hk => by cases h; decide +kernel
  | 1, C, h, hk => by cases h; decide +kernel
  | 2, C, h, hk => by cases h; decide +kernel
  | 3, C, h, hk => by cases h; decide +kernel
  | 4, C, h, hk => by cases h; decide +kernel
  | 5, C, h, hk => by cases h; decide +kernel
  | 6, C, h, hk => by cases h; decide +kernel
  | 7, C, h, hk => by cases h; decide +kernel
  | 8, C, h, hk => by cases h; decide +kernel
  | 9, C, h, hk => by cases h; decide +kernel
  | 10, C, h, hk => by cases h; decide +kernel
  | 11, C, h, hk => by cases h; decide +kernel
  | 12, C, h, hk => by cases h; decide +kernel
  | 13, C, h, hk => absurd rfl hk
  | 14, C, h, hk => by cases h; decide +kernel
  | _ + 15, C, h, hk => by simp [mCN] at h
end CALLS
