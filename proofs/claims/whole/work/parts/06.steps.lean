theorem nx_inv {a : Nat} {b d : List Value} {f : mSt} {i' : Nat} {ls' st' : List Value} {σ' : mSt} (h : nx a b d f = some (.inl (i', ls', st', σ'))) : a = i' ∧ b = ls' ∧ d = st' ∧ f = σ' := by
  unfold nx at h
  cases h
  exact ⟨rfl, rfl, rfl, rfl⟩
theorem jp_inv {i : Nat} {off : Int} {ls st : List Value} {σ : mSt} {i' : Nat} {ls' st' : List Value} {σ' : mSt} (h : jp i off ls st σ = some (.inl (i', ls', st', σ'))) : (i : Int) + off = (i' : Int) ∧ ls = ls' ∧ st = st' ∧ σ = σ' := by
  unfold jp at h
  split at h
  · obtain ⟨h1, h2, h3, h4⟩ := nx_inv h
    exact ⟨by omega, h2, h3, h4⟩
  · cases h
theorem br_inv {i : Nat} {off : Int} {q : Prop} [Decidable q] {ls st : List Value} {σ : mSt} {i' : Nat} {ls' st' : List Value} {σ' : mSt} (h : br i off q ls st σ = some (.inl (i', ls', st', σ'))) : ∃ tgt : Nat, (i : Int) + off = (tgt : Int) ∧ (if q then tgt else i + 3) = i' ∧ ls = ls' ∧ st = st' ∧ σ = σ' := by
  unfold br at h
  split at h
  · obtain ⟨h1, h2, h3, h4⟩ := nx_inv h
    exact ⟨((i : Int) + off).toNat, by omega, h1, h2, h3, h4⟩
  · cases h
theorem lay_good {C : String} {T : u_T} {N : Nat} {w : Cond} (h : w ∈ u_ws C T N) : goodWord w = true := by
  obtain ⟨k, -, rfl⟩ := List.mem_map.mp h
  unfold u_lay
  split <;> rfl
theorem mLay : ∀ {ci : Nat} {C : String} {T : u_T} {N : Nat}, vwCl[ci]? = some (C, T, N) → (∀ w ∈ u_ws C T N, w ∈ mTB) ∧ (∀ k, (T k).1 = C) ∧ (∀ k, k < N → parseFieldDescriptor (T k).2.2.1 = some (mTyF ci k)) ∧ (∀ a, a < N → ∀ b, b < N → a ≠ b → (T a).2.1 ≠ (T b).2.1)
  | 0, C, T, N, h => by
    cases h
    exact ⟨fun w hw => List.mem_filter.mpr ⟨inX0 w hw, lay_good hw⟩, fun k => by unfold TX0; split <;> rfl, tyX0_ok, nmX0⟩
  | 1, C, T, N, h => by
    cases h
    exact ⟨fun w hw => List.mem_filter.mpr ⟨inX1 w hw, lay_good hw⟩, fun k => by unfold TX1; split <;> rfl, tyX1_ok, nmX1⟩
  | 2, C, T, N, h => by
    cases h
    exact ⟨fun w hw => List.mem_filter.mpr ⟨inX2 w hw, lay_good hw⟩, fun k => by unfold TX2; split <;> rfl, tyX2_ok, nmX2⟩
  | 3, C, T, N, h => by
    cases h
    exact ⟨fun w hw => List.mem_filter.mpr ⟨inX3 w hw, lay_good hw⟩, fun k => by unfold TX3; split <;> rfl, tyX3_ok, nmX3⟩
  | 4, C, T, N, h => by
    cases h
    exact ⟨fun w hw => List.mem_filter.mpr ⟨inX4 w hw, lay_good hw⟩, fun k => by unfold TX4; split <;> rfl, tyX4_ok, nmX4⟩
  | 5, C, T, N, h => by
    cases h
    exact ⟨fun w hw => List.mem_filter.mpr ⟨inX5 w hw, lay_good hw⟩, fun k => by unfold TX5; split <;> rfl, tyX5_ok, nmX5⟩
  | 6, C, T, N, h => by
    cases h
    exact ⟨fun w hw => List.mem_filter.mpr ⟨inX6 w hw, lay_good hw⟩, fun k => by unfold TX6; split <;> rfl, tyX6_ok, nmX6⟩
  | 7, C, T, N, h => by
    cases h
    exact ⟨fun w hw => List.mem_filter.mpr ⟨inX7 w hw, lay_good hw⟩, fun k => by unfold TX7; split <;> rfl, tyX7_ok, nmX7⟩
  | 8, C, T, N, h => by
    cases h
    exact ⟨fun w hw => List.mem_filter.mpr ⟨inX8 w hw, lay_good hw⟩, fun k => by unfold TX8; split <;> rfl, tyX8_ok, nmX8⟩
  | 9, C, T, N, h => by
    cases h
    exact ⟨fun w hw => List.mem_filter.mpr ⟨inX9 w hw, lay_good hw⟩, fun k => by unfold TX9; split <;> rfl, tyX9_ok, nmX9⟩
  | 10, C, T, N, h => by
    cases h
    exact ⟨fun w hw => List.mem_filter.mpr ⟨inX10 w hw, lay_good hw⟩, fun k => by unfold TX10; split <;> rfl, tyX10_ok, nmX10⟩
  | 11, C, T, N, h => by
    cases h
    exact ⟨fun w hw => List.mem_filter.mpr ⟨inX11 w hw, lay_good hw⟩, fun k => by unfold TX11; split <;> rfl, tyX11_ok, nmX11⟩
  | _ + 12, C, T, N, h => by simp at h
section STEP
variable {p : Program} {l : Launch} {e : Env} {R : Room} {s : State} {m : MethodId} {args : Array Value} {below : List Frame} {meth : Method} {c : Code} {cells slots : Nat} {Qm : State → Prop} {D : va_G} {tys : List (ClassId × FieldType)} {ad : Nat → Nat} {cA : Nat → ClassId} {A : Nat → Prop} {E : mEn} {M : mM} {i i' : Nat} {ls st ls' st' : List Value} {σ σ' : mSt}
def mG (p : Program) (l : Launch) (e : Env) (R : Room) (s : State) (m : MethodId) (args : Array Value) (below : List Frame) (meth : Method) (c : Code) (cells slots : Nat) (Qm : State → Prop) (D : va_G) (ad : Nat → Nat) (cA : Nat → ClassId) (A : Nat → Prop) (M : mM) (i : Nat) (ls st : List Value) (σ : mSt) : Prop :=
  ∀ (H : Heap) (locs : List Loc) (lsr : Array Slot), mWo D ad cA A s.heap σ H locs → mLoc ad (mL M) ls lsr → W p l e R s m args below meth c H locs cells slots Qm (F0 m i lsr (st.map (cv ad)))
theorem g_iload_n (C : mCx p R s m args c cells slots D tys ad cA A E M) {k0 : Fin 4} (hd : decode (mC M) i = .ok (.iload_n k0, 1)) (h : ldI (i + 1) k0 ls st σ = some (.inl (i', ls', st', σ'))) (k : mG p l e R s m args below meth c cells slots Qm D ad cA A M i' ls' st' σ') : mG p l e R s m args below meth c cells slots Qm D ad cA A M i ls st σ := by
  obtain ⟨hx, hb, hml, hown, hcn, hts, hK, hTy, hEx, hce, hsl, hfr, hlo⟩ := C
  intro H locs lsr hw hl
  unfold ldI at h
  split at h
  · rename_i v hv
    obtain ⟨rfl, rfl, rfl, rfl⟩ := nx_inv h
    exact lv_iload_n hx hb hd rfl (hl.2.2.2 _ _ hv rfl) (k H locs lsr hw hl)
  · cases h
theorem g_iload (C : mCx p R s m args c cells slots D tys ad cA A E M) {k0 : Nat} (hd : decode (mC M) i = .ok (.iload k0, 2)) (h : ldI (i + 2) k0 ls st σ = some (.inl (i', ls', st', σ'))) (k : mG p l e R s m args below meth c cells slots Qm D ad cA A M i' ls' st' σ') : mG p l e R s m args below meth c cells slots Qm D ad cA A M i ls st σ := by
  obtain ⟨hx, hb, hml, hown, hcn, hts, hK, hTy, hEx, hce, hsl, hfr, hlo⟩ := C
  intro H locs lsr hw hl
  unfold ldI at h
  split at h
  · rename_i v hv
    obtain ⟨rfl, rfl, rfl, rfl⟩ := nx_inv h
    exact lv_iload hx hb hd (hl.2.2.2 _ _ hv rfl) (k H locs lsr hw hl)
  · cases h
theorem g_lload_n (C : mCx p R s m args c cells slots D tys ad cA A E M) {k0 : Fin 4} (hd : decode (mC M) i = .ok (.lload_n k0, 1)) (h : ldJ (i + 1) k0 ls st σ = some (.inl (i', ls', st', σ'))) (k : mG p l e R s m args below meth c cells slots Qm D ad cA A M i' ls' st' σ') : mG p l e R s m args below meth c cells slots Qm D ad cA A M i ls st σ := by
  obtain ⟨hx, hb, hml, hown, hcn, hts, hK, hTy, hEx, hce, hsl, hfr, hlo⟩ := C
  intro H locs lsr hw hl
  unfold ldJ at h
  split at h
  · rename_i v hv
    obtain ⟨rfl, rfl, rfl, rfl⟩ := nx_inv h
    exact lv_lload_n hx hb hd rfl (hl.2.2.2 _ _ hv rfl) (k H locs lsr hw hl)
  · cases h
theorem g_lload (C : mCx p R s m args c cells slots D tys ad cA A E M) {k0 : Nat} (hd : decode (mC M) i = .ok (.lload k0, 2)) (h : ldJ (i + 2) k0 ls st σ = some (.inl (i', ls', st', σ'))) (k : mG p l e R s m args below meth c cells slots Qm D ad cA A M i' ls' st' σ') : mG p l e R s m args below meth c cells slots Qm D ad cA A M i ls st σ := by
  obtain ⟨hx, hb, hml, hown, hcn, hts, hK, hTy, hEx, hce, hsl, hfr, hlo⟩ := C
  intro H locs lsr hw hl
  unfold ldJ at h
  split at h
  · rename_i v hv
    obtain ⟨rfl, rfl, rfl, rfl⟩ := nx_inv h
    exact lv_lload hx hb hd (hl.2.2.2 _ _ hv rfl) (k H locs lsr hw hl)
  · cases h
theorem g_aload_n (C : mCx p R s m args c cells slots D tys ad cA A E M) {k0 : Fin 4} (hd : decode (mC M) i = .ok (.aload_n k0, 1)) (h : ldA (i + 1) k0 ls st σ = some (.inl (i', ls', st', σ'))) (k : mG p l e R s m args below meth c cells slots Qm D ad cA A M i' ls' st' σ') : mG p l e R s m args below meth c cells slots Qm D ad cA A M i ls st σ := by
  obtain ⟨hx, hb, hml, hown, hcn, hts, hK, hTy, hEx, hce, hsl, hfr, hlo⟩ := C
  intro H locs lsr hw hl
  unfold ldA at h
  split at h
  · rename_i v hv
    obtain ⟨rfl, rfl, rfl, rfl⟩ := nx_inv h
    exact lv_aload_n hx hb hd rfl (hl.2.2.2 _ _ hv rfl) (k H locs lsr hw hl)
  · cases h
theorem g_aload (C : mCx p R s m args c cells slots D tys ad cA A E M) {k0 : Nat} (hd : decode (mC M) i = .ok (.aload k0, 2)) (h : ldA (i + 2) k0 ls st σ = some (.inl (i', ls', st', σ'))) (k : mG p l e R s m args below meth c cells slots Qm D ad cA A M i' ls' st' σ') : mG p l e R s m args below meth c cells slots Qm D ad cA A M i ls st σ := by
  obtain ⟨hx, hb, hml, hown, hcn, hts, hK, hTy, hEx, hce, hsl, hfr, hlo⟩ := C
  intro H locs lsr hw hl
  unfold ldA at h
  split at h
  · rename_i v hv
    obtain ⟨rfl, rfl, rfl, rfl⟩ := nx_inv h
    exact lv_aload hx hb hd (hl.2.2.2 _ _ hv rfl) (k H locs lsr hw hl)
  · cases h
theorem g_istore_n (C : mCx p R s m args c cells slots D tys ad cA A E M) {k0 : Fin 4} (hd : decode (mC M) i = .ok (.istore_n k0, 1)) (h : stI (i + 1) k0 ls st σ = some (.inl (i', ls', st', σ'))) (k : mG p l e R s m args below meth c cells slots Qm D ad cA A M i' ls' st' σ') : mG p l e R s m args below meth c cells slots Qm D ad cA A M i ls st σ := by
  obtain ⟨hx, hb, hml, hown, hcn, hts, hK, hTy, hEx, hce, hsl, hfr, hlo⟩ := C
  intro H locs lsr hw hl
  unfold stI at h
  split at h
  · rename_i v st0
    split at h
    · rename_i hlt
      obtain ⟨rfl, rfl, rfl, rfl⟩ := nx_inv h
      exact lv_istore_n hx hb hd rfl (mLoc_has hl) (by rw [← hl.1]; exact hlt) rfl (fun lsr' hl' => k H locs lsr' hw (mLoc_st1 (v := .int v) hl hl'))
    · cases h
  · cases h
theorem g_istore (C : mCx p R s m args c cells slots D tys ad cA A E M) {k0 : Nat} (hd : decode (mC M) i = .ok (.istore k0, 2)) (h : stI (i + 2) k0 ls st σ = some (.inl (i', ls', st', σ'))) (k : mG p l e R s m args below meth c cells slots Qm D ad cA A M i' ls' st' σ') : mG p l e R s m args below meth c cells slots Qm D ad cA A M i ls st σ := by
  obtain ⟨hx, hb, hml, hown, hcn, hts, hK, hTy, hEx, hce, hsl, hfr, hlo⟩ := C
  intro H locs lsr hw hl
  unfold stI at h
  split at h
  · rename_i v st0
    split at h
    · rename_i hlt
      obtain ⟨rfl, rfl, rfl, rfl⟩ := nx_inv h
      exact lv_istore hx hb hd (mLoc_has hl) (by rw [← hl.1]; exact hlt) rfl (fun lsr' hl' => k H locs lsr' hw (mLoc_st1 (v := .int v) hl hl'))
    · cases h
  · cases h
theorem g_astore_n (C : mCx p R s m args c cells slots D tys ad cA A E M) {k0 : Fin 4} (hd : decode (mC M) i = .ok (.astore_n k0, 1)) (h : stA (i + 1) k0 ls st σ = some (.inl (i', ls', st', σ'))) (k : mG p l e R s m args below meth c cells slots Qm D ad cA A M i' ls' st' σ') : mG p l e R s m args below meth c cells slots Qm D ad cA A M i ls st σ := by
  obtain ⟨hx, hb, hml, hown, hcn, hts, hK, hTy, hEx, hce, hsl, hfr, hlo⟩ := C
  intro H locs lsr hw hl
  unfold stA at h
  split at h
  · rename_i v st0
    split at h
    · rename_i hlt
      obtain ⟨rfl, rfl, rfl, rfl⟩ := nx_inv h
      exact lv_astore_n hx hb hd rfl (mLoc_has hl) (by rw [← hl.1]; exact hlt) rfl (fun lsr' hl' => k H locs lsr' hw (mLoc_st1 (v := .ref v) hl hl'))
    · cases h
  · cases h
theorem g_astore (C : mCx p R s m args c cells slots D tys ad cA A E M) {k0 : Nat} (hd : decode (mC M) i = .ok (.astore k0, 2)) (h : stA (i + 2) k0 ls st σ = some (.inl (i', ls', st', σ'))) (k : mG p l e R s m args below meth c cells slots Qm D ad cA A M i' ls' st' σ') : mG p l e R s m args below meth c cells slots Qm D ad cA A M i ls st σ := by
  obtain ⟨hx, hb, hml, hown, hcn, hts, hK, hTy, hEx, hce, hsl, hfr, hlo⟩ := C
  intro H locs lsr hw hl
  unfold stA at h
  split at h
  · rename_i v st0
    split at h
    · rename_i hlt
      obtain ⟨rfl, rfl, rfl, rfl⟩ := nx_inv h
      exact lv_astore hx hb hd (mLoc_has hl) (by rw [← hl.1]; exact hlt) rfl (fun lsr' hl' => k H locs lsr' hw (mLoc_st1 (v := .ref v) hl hl'))
    · cases h
  · cases h
theorem g_lstore_n (C : mCx p R s m args c cells slots D tys ad cA A E M) {k0 : Fin 4} (hd : decode (mC M) i = .ok (.lstore_n k0, 1)) (h : stJ (i + 1) k0 ls st σ = some (.inl (i', ls', st', σ'))) (k : mG p l e R s m args below meth c cells slots Qm D ad cA A M i' ls' st' σ') : mG p l e R s m args below meth c cells slots Qm D ad cA A M i ls st σ := by
  obtain ⟨hx, hb, hml, hown, hcn, hts, hK, hTy, hEx, hce, hsl, hfr, hlo⟩ := C
  intro H locs lsr hw hl
  unfold stJ at h
  split at h
  · rename_i v st0
    split at h
    · rename_i hlt
      obtain ⟨rfl, rfl, rfl, rfl⟩ := nx_inv h
      exact lv_lstore_n hx hb hd rfl (mLoc_has hl) (by rw [← hl.1]; exact hlt) rfl (fun lsr' hl' => k H locs lsr' hw (mLoc_st2 (v := .long v) hl hl'))
    · cases h
  · cases h
theorem g_lstore (C : mCx p R s m args c cells slots D tys ad cA A E M) {k0 : Nat} (hd : decode (mC M) i = .ok (.lstore k0, 2)) (h : stJ (i + 2) k0 ls st σ = some (.inl (i', ls', st', σ'))) (k : mG p l e R s m args below meth c cells slots Qm D ad cA A M i' ls' st' σ') : mG p l e R s m args below meth c cells slots Qm D ad cA A M i ls st σ := by
  obtain ⟨hx, hb, hml, hown, hcn, hts, hK, hTy, hEx, hce, hsl, hfr, hlo⟩ := C
  intro H locs lsr hw hl
  unfold stJ at h
  split at h
  · rename_i v st0
    split at h
    · rename_i hlt
      obtain ⟨rfl, rfl, rfl, rfl⟩ := nx_inv h
      exact lv_lstore hx hb hd (mLoc_has hl) (by rw [← hl.1]; exact hlt) rfl (fun lsr' hl' => k H locs lsr' hw (mLoc_st2 (v := .long v) hl hl'))
    · cases h
  · cases h
theorem g_iinc (C : mCx p R s m args c cells slots D tys ad cA A E M) {k0 : Nat} {n : Int} (hd : decode (mC M) i = .ok (.iinc k0 n, 3)) (h : doIinc i k0 n ls st σ = some (.inl (i', ls', st', σ'))) (k : mG p l e R s m args below meth c cells slots Qm D ad cA A M i' ls' st' σ') : mG p l e R s m args below meth c cells slots Qm D ad cA A M i ls st σ := by
  obtain ⟨hx, hb, hml, hown, hcn, hts, hK, hTy, hEx, hce, hsl, hfr, hlo⟩ := C
  intro H locs lsr hw hl
  unfold doIinc at h
  split at h
  · rename_i v hv
    obtain ⟨rfl, rfl, rfl, rfl⟩ := nx_inv h
    have hm := mAs_mem (ad := ad) hv rfl
    obtain ⟨q, hq⟩ := List.getElem?_of_mem hm
    exact lv_iinc hx hb hd (mLoc_has hl) hq rfl (by rw [← hl.1]; exact (List.getElem?_eq_some_iff.mp hv).1) rfl (fun lsr' hl' => k H locs lsr' hw (mLoc_st1 (v := .int (v + Int32.ofInt n)) hl hl'))
  · cases h
theorem g_iconst (C : mCx p R s m args c cells slots D tys ad cA A E M) {n : Int} (hd : decode (mC M) i = .ok (.iconst n, 1)) (h : nx (i + 1) ls (.int (Int32.ofInt n) :: st) σ = some (.inl (i', ls', st', σ'))) (k : mG p l e R s m args below meth c cells slots Qm D ad cA A M i' ls' st' σ') : mG p l e R s m args below meth c cells slots Qm D ad cA A M i ls st σ := by
  obtain ⟨hx, hb, hml, hown, hcn, hts, hK, hTy, hEx, hce, hsl, hfr, hlo⟩ := C
  intro H locs lsr hw hl
  obtain ⟨rfl, rfl, rfl, rfl⟩ := nx_inv h
  exact lv_iconst hx hb hd rfl (k H locs lsr hw hl)
theorem g_bipush (C : mCx p R s m args c cells slots D tys ad cA A E M) {n : Int} (hd : decode (mC M) i = .ok (.bipush n, 2)) (h : nx (i + 2) ls (.int (Int8.ofInt n).toInt32 :: st) σ = some (.inl (i', ls', st', σ'))) (k : mG p l e R s m args below meth c cells slots Qm D ad cA A M i' ls' st' σ') : mG p l e R s m args below meth c cells slots Qm D ad cA A M i ls st σ := by
  obtain ⟨hx, hb, hml, hown, hcn, hts, hK, hTy, hEx, hce, hsl, hfr, hlo⟩ := C
  intro H locs lsr hw hl
  obtain ⟨rfl, rfl, rfl, rfl⟩ := nx_inv h
  exact lv_bipush hx hb hd rfl (k H locs lsr hw hl)
theorem g_sipush (C : mCx p R s m args c cells slots D tys ad cA A E M) {n : Int} (hd : decode (mC M) i = .ok (.sipush n, 3)) (h : nx (i + 3) ls (.int (Int16.ofInt n).toInt32 :: st) σ = some (.inl (i', ls', st', σ'))) (k : mG p l e R s m args below meth c cells slots Qm D ad cA A M i' ls' st' σ') : mG p l e R s m args below meth c cells slots Qm D ad cA A M i ls st σ := by
  obtain ⟨hx, hb, hml, hown, hcn, hts, hK, hTy, hEx, hce, hsl, hfr, hlo⟩ := C
  intro H locs lsr hw hl
  obtain ⟨rfl, rfl, rfl, rfl⟩ := nx_inv h
  exact lv_sipush hx hb hd rfl (k H locs lsr hw hl)
theorem g_lconst (C : mCx p R s m args c cells slots D tys ad cA A E M) {n : Fin 2} (hd : decode (mC M) i = .ok (.lconst n, 1)) (h : nx (i + 1) ls (.long (Int64.ofNat n) :: st) σ = some (.inl (i', ls', st', σ'))) (k : mG p l e R s m args below meth c cells slots Qm D ad cA A M i' ls' st' σ') : mG p l e R s m args below meth c cells slots Qm D ad cA A M i ls st σ := by
  obtain ⟨hx, hb, hml, hown, hcn, hts, hK, hTy, hEx, hce, hsl, hfr, hlo⟩ := C
  intro H locs lsr hw hl
  obtain ⟨rfl, rfl, rfl, rfl⟩ := nx_inv h
  exact lv_lconst hx hb hd rfl (k H locs lsr hw hl)
theorem mOwn (hcn : mCN[mK M]? = some (mY M).cls) : mCN.getD (mK M) "" = (mY M).cls := by
  rw [List.getD_eq_getElem?_getD, hcn]
  rfl
theorem mWord (hcn : mCN[mK M]? = some (mY M).cls) (hts : ∀ w ∈ mTB, w.before args s = true) {idx : Nat} {z : mZ} (hz : mRz (mK M) idx = some z) {w : Cond} (hw : w ∈ mNeed (mY M).cls idx z) : w.before args s = true := by
  refine hts w ((mRz_ok hz).1 w ?_)
  rw [mOwn hcn]
  exact hw
theorem g_ldc (C : mCx p R s m args c cells slots D tys ad cA A E M) {idx : Nat} (hd : decode (mC M) i = .ok (.ldc idx, 2)) (h : doLdc M idx (i + 2) ls st σ = some (.inl (i', ls', st', σ'))) (k : mG p l e R s m args below meth c cells slots Qm D ad cA A M i' ls' st' σ') : mG p l e R s m args below meth c cells slots Qm D ad cA A M i ls st σ := by
  obtain ⟨hx, hb, hml, hown, hcn, hts, hK, hTy, hEx, hce, hsl, hfr, hlo⟩ := C
  intro H locs lsr hw hl
  unfold doLdc at h
  split at h
  · rename_i v hz
    obtain ⟨rfl, rfl, rfl, rfl⟩ := nx_inv h
    exact lv_ldc hx hb hown (mWord hcn hts hz (by simp [mNeed])) hd (k H locs lsr hw hl)
  · cases h
theorem g_ldc_w (C : mCx p R s m args c cells slots D tys ad cA A E M) {idx : Nat} (hd : decode (mC M) i = .ok (.ldc_w idx, 3)) (h : doLdc M idx (i + 3) ls st σ = some (.inl (i', ls', st', σ'))) (k : mG p l e R s m args below meth c cells slots Qm D ad cA A M i' ls' st' σ') : mG p l e R s m args below meth c cells slots Qm D ad cA A M i ls st σ := by
  obtain ⟨hx, hb, hml, hown, hcn, hts, hK, hTy, hEx, hce, hsl, hfr, hlo⟩ := C
  intro H locs lsr hw hl
  unfold doLdc at h
  split at h
  · rename_i v hz
    obtain ⟨rfl, rfl, rfl, rfl⟩ := nx_inv h
    exact lv_ldcw hx hb hown (mWord hcn hts hz (by simp [mNeed])) hd (k H locs lsr hw hl)
  · cases h
theorem g_ldc2 (C : mCx p R s m args c cells slots D tys ad cA A E M) {idx : Nat} (hd : decode (mC M) i = .ok (.ldc2_w idx, 3)) (h : doLdc2 M idx (i + 3) ls st σ = some (.inl (i', ls', st', σ'))) (k : mG p l e R s m args below meth c cells slots Qm D ad cA A M i' ls' st' σ') : mG p l e R s m args below meth c cells slots Qm D ad cA A M i ls st σ := by
  obtain ⟨hx, hb, hml, hown, hcn, hts, hK, hTy, hEx, hce, hsl, hfr, hlo⟩ := C
  intro H locs lsr hw hl
  unfold doLdc2 at h
  split at h
  · rename_i v hz
    obtain ⟨rfl, rfl, rfl, rfl⟩ := nx_inv h
    exact lv_ldc2 hx hb hown (mWord hcn hts hz (by simp [mNeed])) hd (k H locs lsr hw hl)
  · cases h
theorem g_iadd (C : mCx p R s m args c cells slots D tys ad cA A E M) (hd : decode (mC M) i = .ok (.iadd, 1)) (h : o2 (fun x y => x + y) i ls st σ = some (.inl (i', ls', st', σ'))) (k : mG p l e R s m args below meth c cells slots Qm D ad cA A M i' ls' st' σ') : mG p l e R s m args below meth c cells slots Qm D ad cA A M i ls st σ := by
  obtain ⟨hx, hb, hml, hown, hcn, hts, hK, hTy, hEx, hce, hsl, hfr, hlo⟩ := C
  intro H locs lsr hw hl
  unfold o2 at h
  split at h
  · rename_i y x st0
    obtain ⟨rfl, rfl, rfl, rfl⟩ := nx_inv h
    exact lv_iadd hx hb hd (k H locs lsr hw hl)
  · cases h
theorem g_isub (C : mCx p R s m args c cells slots D tys ad cA A E M) (hd : decode (mC M) i = .ok (.isub, 1)) (h : o2 (fun x y => x - y) i ls st σ = some (.inl (i', ls', st', σ'))) (k : mG p l e R s m args below meth c cells slots Qm D ad cA A M i' ls' st' σ') : mG p l e R s m args below meth c cells slots Qm D ad cA A M i ls st σ := by
  obtain ⟨hx, hb, hml, hown, hcn, hts, hK, hTy, hEx, hce, hsl, hfr, hlo⟩ := C
  intro H locs lsr hw hl
  unfold o2 at h
  split at h
  · rename_i y x st0
    obtain ⟨rfl, rfl, rfl, rfl⟩ := nx_inv h
    exact lv_isub hx hb hd (k H locs lsr hw hl)
  · cases h
theorem g_imul (C : mCx p R s m args c cells slots D tys ad cA A E M) (hd : decode (mC M) i = .ok (.imul, 1)) (h : o2 (fun x y => x * y) i ls st σ = some (.inl (i', ls', st', σ'))) (k : mG p l e R s m args below meth c cells slots Qm D ad cA A M i' ls' st' σ') : mG p l e R s m args below meth c cells slots Qm D ad cA A M i ls st σ := by
  obtain ⟨hx, hb, hml, hown, hcn, hts, hK, hTy, hEx, hce, hsl, hfr, hlo⟩ := C
  intro H locs lsr hw hl
  unfold o2 at h
  split at h
  · rename_i y x st0
    obtain ⟨rfl, rfl, rfl, rfl⟩ := nx_inv h
    exact lv_imul hx hb hd (k H locs lsr hw hl)
  · cases h
theorem g_iand (C : mCx p R s m args c cells slots D tys ad cA A E M) (hd : decode (mC M) i = .ok (.iand, 1)) (h : o2 (fun x y => x &&& y) i ls st σ = some (.inl (i', ls', st', σ'))) (k : mG p l e R s m args below meth c cells slots Qm D ad cA A M i' ls' st' σ') : mG p l e R s m args below meth c cells slots Qm D ad cA A M i ls st σ := by
  obtain ⟨hx, hb, hml, hown, hcn, hts, hK, hTy, hEx, hce, hsl, hfr, hlo⟩ := C
  intro H locs lsr hw hl
  unfold o2 at h
  split at h
  · rename_i y x st0
    obtain ⟨rfl, rfl, rfl, rfl⟩ := nx_inv h
    exact lv_iand hx hb hd (k H locs lsr hw hl)
  · cases h
theorem g_ior (C : mCx p R s m args c cells slots D tys ad cA A E M) (hd : decode (mC M) i = .ok (.ior, 1)) (h : o2 (fun x y => x ||| y) i ls st σ = some (.inl (i', ls', st', σ'))) (k : mG p l e R s m args below meth c cells slots Qm D ad cA A M i' ls' st' σ') : mG p l e R s m args below meth c cells slots Qm D ad cA A M i ls st σ := by
  obtain ⟨hx, hb, hml, hown, hcn, hts, hK, hTy, hEx, hce, hsl, hfr, hlo⟩ := C
  intro H locs lsr hw hl
  unfold o2 at h
  split at h
  · rename_i y x st0
    obtain ⟨rfl, rfl, rfl, rfl⟩ := nx_inv h
    exact lv_ior hx hb hd (k H locs lsr hw hl)
  · cases h
theorem g_ixor (C : mCx p R s m args c cells slots D tys ad cA A E M) (hd : decode (mC M) i = .ok (.ixor, 1)) (h : o2 (fun x y => x ^^^ y) i ls st σ = some (.inl (i', ls', st', σ'))) (k : mG p l e R s m args below meth c cells slots Qm D ad cA A M i' ls' st' σ') : mG p l e R s m args below meth c cells slots Qm D ad cA A M i ls st σ := by
  obtain ⟨hx, hb, hml, hown, hcn, hts, hK, hTy, hEx, hce, hsl, hfr, hlo⟩ := C
  intro H locs lsr hw hl
  unfold o2 at h
  split at h
  · rename_i y x st0
    obtain ⟨rfl, rfl, rfl, rfl⟩ := nx_inv h
    exact lv_ixor hx hb hd (k H locs lsr hw hl)
  · cases h
theorem g_ishl (C : mCx p R s m args c cells slots D tys ad cA A E M) (hd : decode (mC M) i = .ok (.ishl, 1)) (h : o2 (fun x y => x <<< (y &&& 31)) i ls st σ = some (.inl (i', ls', st', σ'))) (k : mG p l e R s m args below meth c cells slots Qm D ad cA A M i' ls' st' σ') : mG p l e R s m args below meth c cells slots Qm D ad cA A M i ls st σ := by
  obtain ⟨hx, hb, hml, hown, hcn, hts, hK, hTy, hEx, hce, hsl, hfr, hlo⟩ := C
  intro H locs lsr hw hl
  unfold o2 at h
  split at h
  · rename_i y x st0
    obtain ⟨rfl, rfl, rfl, rfl⟩ := nx_inv h
    exact lv_ishl hx hb hd (k H locs lsr hw hl)
  · cases h
theorem g_ishr (C : mCx p R s m args c cells slots D tys ad cA A E M) (hd : decode (mC M) i = .ok (.ishr, 1)) (h : o2 (fun x y => x >>> (y &&& 31)) i ls st σ = some (.inl (i', ls', st', σ'))) (k : mG p l e R s m args below meth c cells slots Qm D ad cA A M i' ls' st' σ') : mG p l e R s m args below meth c cells slots Qm D ad cA A M i ls st σ := by
  obtain ⟨hx, hb, hml, hown, hcn, hts, hK, hTy, hEx, hce, hsl, hfr, hlo⟩ := C
  intro H locs lsr hw hl
  unfold o2 at h
  split at h
  · rename_i y x st0
    obtain ⟨rfl, rfl, rfl, rfl⟩ := nx_inv h
    exact lv_ishr hx hb hd (k H locs lsr hw hl)
  · cases h
theorem g_idiv (C : mCx p R s m args c cells slots D tys ad cA A E M) (hd : decode (mC M) i = .ok (.idiv, 1)) (h : o2d (fun x y => x / y) i ls st σ = some (.inl (i', ls', st', σ'))) (k : mG p l e R s m args below meth c cells slots Qm D ad cA A M i' ls' st' σ') : mG p l e R s m args below meth c cells slots Qm D ad cA A M i ls st σ := by
  obtain ⟨hx, hb, hml, hown, hcn, hts, hK, hTy, hEx, hce, hsl, hfr, hlo⟩ := C
  intro H locs lsr hw hl
  unfold o2d at h
  split at h
  · rename_i y x st0
    split at h
    · cases h
    · rename_i hne
      obtain ⟨rfl, rfl, rfl, rfl⟩ := nx_inv h
      exact lv_idiv hx hb hd hne (k H locs lsr hw hl)
  · cases h
theorem g_irem (C : mCx p R s m args c cells slots D tys ad cA A E M) (hd : decode (mC M) i = .ok (.irem, 1)) (h : o2d (fun x y => x - x / y * y) i ls st σ = some (.inl (i', ls', st', σ'))) (k : mG p l e R s m args below meth c cells slots Qm D ad cA A M i' ls' st' σ') : mG p l e R s m args below meth c cells slots Qm D ad cA A M i ls st σ := by
  obtain ⟨hx, hb, hml, hown, hcn, hts, hK, hTy, hEx, hce, hsl, hfr, hlo⟩ := C
  intro H locs lsr hw hl
  unfold o2d at h
  split at h
  · rename_i y x st0
    split at h
    · cases h
    · rename_i hne
      obtain ⟨rfl, rfl, rfl, rfl⟩ := nx_inv h
      exact lv_irem hx hb hd hne (k H locs lsr hw hl)
  · cases h
theorem g_ladd (C : mCx p R s m args c cells slots D tys ad cA A E M) (hd : decode (mC M) i = .ok (.ladd, 1)) (h : p2 (fun x y => x + y) i ls st σ = some (.inl (i', ls', st', σ'))) (k : mG p l e R s m args below meth c cells slots Qm D ad cA A M i' ls' st' σ') : mG p l e R s m args below meth c cells slots Qm D ad cA A M i ls st σ := by
  obtain ⟨hx, hb, hml, hown, hcn, hts, hK, hTy, hEx, hce, hsl, hfr, hlo⟩ := C
  intro H locs lsr hw hl
  unfold p2 at h
  split at h
  · rename_i y x st0
    obtain ⟨rfl, rfl, rfl, rfl⟩ := nx_inv h
    exact lv_ladd hx hb hd (k H locs lsr hw hl)
  · cases h
theorem g_lsub (C : mCx p R s m args c cells slots D tys ad cA A E M) (hd : decode (mC M) i = .ok (.lsub, 1)) (h : p2 (fun x y => x - y) i ls st σ = some (.inl (i', ls', st', σ'))) (k : mG p l e R s m args below meth c cells slots Qm D ad cA A M i' ls' st' σ') : mG p l e R s m args below meth c cells slots Qm D ad cA A M i ls st σ := by
  obtain ⟨hx, hb, hml, hown, hcn, hts, hK, hTy, hEx, hce, hsl, hfr, hlo⟩ := C
  intro H locs lsr hw hl
  unfold p2 at h
  split at h
  · rename_i y x st0
    obtain ⟨rfl, rfl, rfl, rfl⟩ := nx_inv h
    exact lv_lsub hx hb hd (k H locs lsr hw hl)
  · cases h
theorem g_lmul (C : mCx p R s m args c cells slots D tys ad cA A E M) (hd : decode (mC M) i = .ok (.lmul, 1)) (h : p2 (fun x y => x * y) i ls st σ = some (.inl (i', ls', st', σ'))) (k : mG p l e R s m args below meth c cells slots Qm D ad cA A M i' ls' st' σ') : mG p l e R s m args below meth c cells slots Qm D ad cA A M i ls st σ := by
  obtain ⟨hx, hb, hml, hown, hcn, hts, hK, hTy, hEx, hce, hsl, hfr, hlo⟩ := C
  intro H locs lsr hw hl
  unfold p2 at h
  split at h
  · rename_i y x st0
    obtain ⟨rfl, rfl, rfl, rfl⟩ := nx_inv h
    exact lv_lmul hx hb hd (k H locs lsr hw hl)
  · cases h
theorem g_land (C : mCx p R s m args c cells slots D tys ad cA A E M) (hd : decode (mC M) i = .ok (.land, 1)) (h : p2 (fun x y => x &&& y) i ls st σ = some (.inl (i', ls', st', σ'))) (k : mG p l e R s m args below meth c cells slots Qm D ad cA A M i' ls' st' σ') : mG p l e R s m args below meth c cells slots Qm D ad cA A M i ls st σ := by
  obtain ⟨hx, hb, hml, hown, hcn, hts, hK, hTy, hEx, hce, hsl, hfr, hlo⟩ := C
  intro H locs lsr hw hl
  unfold p2 at h
  split at h
  · rename_i y x st0
    obtain ⟨rfl, rfl, rfl, rfl⟩ := nx_inv h
    exact lv_land hx hb hd (k H locs lsr hw hl)
  · cases h
theorem g_lor (C : mCx p R s m args c cells slots D tys ad cA A E M) (hd : decode (mC M) i = .ok (.lor, 1)) (h : p2 (fun x y => x ||| y) i ls st σ = some (.inl (i', ls', st', σ'))) (k : mG p l e R s m args below meth c cells slots Qm D ad cA A M i' ls' st' σ') : mG p l e R s m args below meth c cells slots Qm D ad cA A M i ls st σ := by
  obtain ⟨hx, hb, hml, hown, hcn, hts, hK, hTy, hEx, hce, hsl, hfr, hlo⟩ := C
  intro H locs lsr hw hl
  unfold p2 at h
  split at h
  · rename_i y x st0
    obtain ⟨rfl, rfl, rfl, rfl⟩ := nx_inv h
    exact lv_lor hx hb hd (k H locs lsr hw hl)
  · cases h
theorem g_ldiv (C : mCx p R s m args c cells slots D tys ad cA A E M) (hd : decode (mC M) i = .ok (.ldiv, 1)) (h : p2d (fun x y => x / y) i ls st σ = some (.inl (i', ls', st', σ'))) (k : mG p l e R s m args below meth c cells slots Qm D ad cA A M i' ls' st' σ') : mG p l e R s m args below meth c cells slots Qm D ad cA A M i ls st σ := by
  obtain ⟨hx, hb, hml, hown, hcn, hts, hK, hTy, hEx, hce, hsl, hfr, hlo⟩ := C
  intro H locs lsr hw hl
  unfold p2d at h
  split at h
  · rename_i y x st0
    split at h
    · cases h
    · rename_i hne
      obtain ⟨rfl, rfl, rfl, rfl⟩ := nx_inv h
      exact lv_ldiv hx hb hd hne (k H locs lsr hw hl)
  · cases h
theorem g_lrem (C : mCx p R s m args c cells slots D tys ad cA A E M) (hd : decode (mC M) i = .ok (.lrem, 1)) (h : p2d (fun x y => x - x / y * y) i ls st σ = some (.inl (i', ls', st', σ'))) (k : mG p l e R s m args below meth c cells slots Qm D ad cA A M i' ls' st' σ') : mG p l e R s m args below meth c cells slots Qm D ad cA A M i ls st σ := by
  obtain ⟨hx, hb, hml, hown, hcn, hts, hK, hTy, hEx, hce, hsl, hfr, hlo⟩ := C
  intro H locs lsr hw hl
  unfold p2d at h
  split at h
  · rename_i y x st0
    split at h
    · cases h
    · rename_i hne
      obtain ⟨rfl, rfl, rfl, rfl⟩ := nx_inv h
      exact lv_lrem hx hb hd hne (k H locs lsr hw hl)
  · cases h
theorem g_ineg (C : mCx p R s m args c cells slots D tys ad cA A E M) (hd : decode (mC M) i = .ok (.ineg, 1)) (h : o1 (fun x => .int (-x)) i ls st σ = some (.inl (i', ls', st', σ'))) (k : mG p l e R s m args below meth c cells slots Qm D ad cA A M i' ls' st' σ') : mG p l e R s m args below meth c cells slots Qm D ad cA A M i ls st σ := by
  obtain ⟨hx, hb, hml, hown, hcn, hts, hK, hTy, hEx, hce, hsl, hfr, hlo⟩ := C
  intro H locs lsr hw hl
  unfold o1 at h
  split at h
  · rename_i x st0
    obtain ⟨rfl, rfl, rfl, rfl⟩ := nx_inv h
    exact lv_ineg hx hb hd (k H locs lsr hw hl)
  · cases h
theorem g_i2l (C : mCx p R s m args c cells slots D tys ad cA A E M) (hd : decode (mC M) i = .ok (.i2l, 1)) (h : o1 (fun x => .long x.toInt64) i ls st σ = some (.inl (i', ls', st', σ'))) (k : mG p l e R s m args below meth c cells slots Qm D ad cA A M i' ls' st' σ') : mG p l e R s m args below meth c cells slots Qm D ad cA A M i ls st σ := by
  obtain ⟨hx, hb, hml, hown, hcn, hts, hK, hTy, hEx, hce, hsl, hfr, hlo⟩ := C
  intro H locs lsr hw hl
  unfold o1 at h
  split at h
  · rename_i x st0
    obtain ⟨rfl, rfl, rfl, rfl⟩ := nx_inv h
    exact lv_i2l hx hb hd rfl (k H locs lsr hw hl)
  · cases h
theorem g_i2b (C : mCx p R s m args c cells slots D tys ad cA A E M) (hd : decode (mC M) i = .ok (.i2b, 1)) (h : o1 (fun x => .int x.toInt8.toInt32) i ls st σ = some (.inl (i', ls', st', σ'))) (k : mG p l e R s m args below meth c cells slots Qm D ad cA A M i' ls' st' σ') : mG p l e R s m args below meth c cells slots Qm D ad cA A M i ls st σ := by
  obtain ⟨hx, hb, hml, hown, hcn, hts, hK, hTy, hEx, hce, hsl, hfr, hlo⟩ := C
  intro H locs lsr hw hl
  unfold o1 at h
  split at h
  · rename_i x st0
    obtain ⟨rfl, rfl, rfl, rfl⟩ := nx_inv h
    exact lv_i2b hx hb hd rfl (k H locs lsr hw hl)
  · cases h
theorem g_i2s (C : mCx p R s m args c cells slots D tys ad cA A E M) (hd : decode (mC M) i = .ok (.i2s, 1)) (h : o1 (fun x => .int x.toInt16.toInt32) i ls st σ = some (.inl (i', ls', st', σ'))) (k : mG p l e R s m args below meth c cells slots Qm D ad cA A M i' ls' st' σ') : mG p l e R s m args below meth c cells slots Qm D ad cA A M i ls st σ := by
  obtain ⟨hx, hb, hml, hown, hcn, hts, hK, hTy, hEx, hce, hsl, hfr, hlo⟩ := C
  intro H locs lsr hw hl
  unfold o1 at h
  split at h
  · rename_i x st0
    obtain ⟨rfl, rfl, rfl, rfl⟩ := nx_inv h
    exact lv_i2s hx hb hd rfl (k H locs lsr hw hl)
  · cases h
theorem g_l2i (C : mCx p R s m args c cells slots D tys ad cA A E M) (hd : decode (mC M) i = .ok (.l2i, 1)) (h : p1 (fun x => .int x.toInt32) i ls st σ = some (.inl (i', ls', st', σ'))) (k : mG p l e R s m args below meth c cells slots Qm D ad cA A M i' ls' st' σ') : mG p l e R s m args below meth c cells slots Qm D ad cA A M i ls st σ := by
  obtain ⟨hx, hb, hml, hown, hcn, hts, hK, hTy, hEx, hce, hsl, hfr, hlo⟩ := C
  intro H locs lsr hw hl
  unfold p1 at h
  split at h
  · rename_i x st0
    obtain ⟨rfl, rfl, rfl, rfl⟩ := nx_inv h
    exact lv_l2i hx hb hd rfl (k H locs lsr hw hl)
  · cases h
theorem g_lshl (C : mCx p R s m args c cells slots D tys ad cA A E M) (hd : decode (mC M) i = .ok (.lshl, 1)) (h : doShl i ls st σ = some (.inl (i', ls', st', σ'))) (k : mG p l e R s m args below meth c cells slots Qm D ad cA A M i' ls' st' σ') : mG p l e R s m args below meth c cells slots Qm D ad cA A M i ls st σ := by
  obtain ⟨hx, hb, hml, hown, hcn, hts, hK, hTy, hEx, hce, hsl, hfr, hlo⟩ := C
  intro H locs lsr hw hl
  unfold doShl at h
  split at h
  · obtain ⟨rfl, rfl, rfl, rfl⟩ := nx_inv h
    exact lv_lshl hx hb hd rfl (k H locs lsr hw hl)
  · cases h
theorem g_lcmp (C : mCx p R s m args c cells slots D tys ad cA A E M) (hd : decode (mC M) i = .ok (.lcmp, 1)) (h : doLcmp i ls st σ = some (.inl (i', ls', st', σ'))) (k : mG p l e R s m args below meth c cells slots Qm D ad cA A M i' ls' st' σ') : mG p l e R s m args below meth c cells slots Qm D ad cA A M i ls st σ := by
  obtain ⟨hx, hb, hml, hown, hcn, hts, hK, hTy, hEx, hce, hsl, hfr, hlo⟩ := C
  intro H locs lsr hw hl
  unfold doLcmp at h
  split at h
  · obtain ⟨rfl, rfl, rfl, rfl⟩ := nx_inv h
    exact W.lcmp hx hb hd (k H locs lsr hw hl)
  · cases h
theorem g_ifCond (C : mCx p R s m args c cells slots D tys ad cA A E M) {q : ClassFile.Cond} {off : Int} (hd : decode (mC M) i = .ok (.ifCond q off, 3)) (h : doIf i q off ls st σ = some (.inl (i', ls', st', σ'))) (k : mG p l e R s m args below meth c cells slots Qm D ad cA A M i' ls' st' σ') : mG p l e R s m args below meth c cells slots Qm D ad cA A M i ls st σ := by
  obtain ⟨hx, hb, hml, hown, hcn, hts, hK, hTy, hEx, hce, hsl, hfr, hlo⟩ := C
  intro H locs lsr hw hl
  unfold doIf at h
  split at h
  · obtain ⟨tgt, ht, hi', rfl, rfl, rfl⟩ := br_inv h
    cases q <;> (simp only [cm0, decide_eq_true_eq] at hi')
    · exact lv_if_eq hx hb hd ht (fun a => by rw [if_pos a] at hi'; rw [← hi'] at k; exact k H locs lsr hw hl) (fun a => by (first | rw [if_neg a] at hi' | rw [if_neg (fun q => q a)] at hi'); rw [← hi'] at k; exact k H locs lsr hw hl)
    · exact lv_if_ne hx hb hd ht (fun a => by rw [if_pos a] at hi'; rw [← hi'] at k; exact k H locs lsr hw hl) (fun a => by (first | rw [if_neg a] at hi' | rw [if_neg (fun q => q a)] at hi'); rw [← hi'] at k; exact k H locs lsr hw hl)
    · exact lv_if_lt hx hb hd ht (fun a => by rw [if_pos a] at hi'; rw [← hi'] at k; exact k H locs lsr hw hl) (fun a => by (first | rw [if_neg a] at hi' | rw [if_neg (fun q => q a)] at hi'); rw [← hi'] at k; exact k H locs lsr hw hl)
    · exact lv_if_ge hx hb hd ht (fun a => by rw [if_pos a] at hi'; rw [← hi'] at k; exact k H locs lsr hw hl) (fun a => by (first | rw [if_neg a] at hi' | rw [if_neg (fun q => q a)] at hi'); rw [← hi'] at k; exact k H locs lsr hw hl)
    · exact lv_if_gt hx hb hd ht (fun a => by rw [if_pos a] at hi'; rw [← hi'] at k; exact k H locs lsr hw hl) (fun a => by (first | rw [if_neg a] at hi' | rw [if_neg (fun q => q a)] at hi'); rw [← hi'] at k; exact k H locs lsr hw hl)
    · exact lv_if_le hx hb hd ht (fun a => by rw [if_pos a] at hi'; rw [← hi'] at k; exact k H locs lsr hw hl) (fun a => by (first | rw [if_neg a] at hi' | rw [if_neg (fun q => q a)] at hi'); rw [← hi'] at k; exact k H locs lsr hw hl)
  · cases h
theorem g_if_icmp (C : mCx p R s m args c cells slots D tys ad cA A E M) {q : ClassFile.Cond} {off : Int} (hd : decode (mC M) i = .ok (.if_icmp q off, 3)) (h : doIf2 i q off ls st σ = some (.inl (i', ls', st', σ'))) (k : mG p l e R s m args below meth c cells slots Qm D ad cA A M i' ls' st' σ') : mG p l e R s m args below meth c cells slots Qm D ad cA A M i ls st σ := by
  obtain ⟨hx, hb, hml, hown, hcn, hts, hK, hTy, hEx, hce, hsl, hfr, hlo⟩ := C
  intro H locs lsr hw hl
  unfold doIf2 at h
  split at h
  · obtain ⟨tgt, ht, hi', rfl, rfl, rfl⟩ := br_inv h
    cases q <;> (simp only [cm2, decide_eq_true_eq] at hi')
    · exact lv_icmp_eq hx hb hd ht (fun a => by rw [if_pos a] at hi'; rw [← hi'] at k; exact k H locs lsr hw hl) (fun a => by (first | rw [if_neg a] at hi' | rw [if_neg (fun q => q a)] at hi'); rw [← hi'] at k; exact k H locs lsr hw hl)
    · exact lv_icmp_ne hx hb hd ht (fun a => by rw [if_pos a] at hi'; rw [← hi'] at k; exact k H locs lsr hw hl) (fun a => by (first | rw [if_neg a] at hi' | rw [if_neg (fun q => q a)] at hi'); rw [← hi'] at k; exact k H locs lsr hw hl)
    · exact lv_icmp_lt hx hb hd ht (fun a => by rw [if_pos a] at hi'; rw [← hi'] at k; exact k H locs lsr hw hl) (fun a => by (first | rw [if_neg a] at hi' | rw [if_neg (fun q => q a)] at hi'); rw [← hi'] at k; exact k H locs lsr hw hl)
    · exact lv_icmp_ge hx hb hd ht (fun a => by rw [if_pos a] at hi'; rw [← hi'] at k; exact k H locs lsr hw hl) (fun a => by (first | rw [if_neg a] at hi' | rw [if_neg (fun q => q a)] at hi'); rw [← hi'] at k; exact k H locs lsr hw hl)
    · exact lv_icmp_gt hx hb hd ht (fun a => by rw [if_pos a] at hi'; rw [← hi'] at k; exact k H locs lsr hw hl) (fun a => by (first | rw [if_neg a] at hi' | rw [if_neg (fun q => q a)] at hi'); rw [← hi'] at k; exact k H locs lsr hw hl)
    · exact lv_icmp_le hx hb hd ht (fun a => by rw [if_pos a] at hi'; rw [← hi'] at k; exact k H locs lsr hw hl) (fun a => by (first | rw [if_neg a] at hi' | rw [if_neg (fun q => q a)] at hi'); rw [← hi'] at k; exact k H locs lsr hw hl)
  · cases h
theorem g_goto (C : mCx p R s m args c cells slots D tys ad cA A E M) {off : Int} (hd : decode (mC M) i = .ok (.goto off, 3)) (h : jp i off ls st σ = some (.inl (i', ls', st', σ'))) (k : mG p l e R s m args below meth c cells slots Qm D ad cA A M i' ls' st' σ') : mG p l e R s m args below meth c cells slots Qm D ad cA A M i ls st σ := by
  obtain ⟨hx, hb, hml, hown, hcn, hts, hK, hTy, hEx, hce, hsl, hfr, hlo⟩ := C
  intro H locs lsr hw hl
  obtain ⟨ht, rfl, rfl, rfl⟩ := jp_inv h
  exact lv_goto hx hb hd ht (k H locs lsr hw hl)
theorem g_ifnull (C : mCx p R s m args c cells slots D tys ad cA A E M) {off : Int} (hd : decode (mC M) i = .ok (.ifnull off, 3)) (h : doNull i ls st σ = some (.inl (i', ls', st', σ'))) (k : mG p l e R s m args below meth c cells slots Qm D ad cA A M i' ls' st' σ') : mG p l e R s m args below meth c cells slots Qm D ad cA A M i ls st σ := by
  obtain ⟨hx, hb, hml, hown, hcn, hts, hK, hTy, hEx, hce, hsl, hfr, hlo⟩ := C
  intro H locs lsr hw hl
  unfold doNull at h
  split at h
  · obtain ⟨rfl, rfl, rfl, rfl⟩ := nx_inv h
    exact lv_ifnull hx hb hd (k H locs lsr hw hl)
  · cases h
theorem g_table (C : mCx p R s m args c cells slots D tys ad cA A E M) {d0 lo hi : Int} {offs : Array Int} {len : Nat} (hd : decode (mC M) i = .ok (.tableswitch d0 lo hi offs, len)) (h : doSw i d0 lo hi offs ls st σ = some (.inl (i', ls', st', σ'))) (k : mG p l e R s m args below meth c cells slots Qm D ad cA A M i' ls' st' σ') : mG p l e R s m args below meth c cells slots Qm D ad cA A M i ls st σ := by
  obtain ⟨hx, hb, hml, hown, hcn, hts, hK, hTy, hEx, hce, hsl, hfr, hlo⟩ := C
  intro H locs lsr hw hl
  unfold doSw at h
  split at h
  · split at h
    · rename_i hc
      obtain ⟨ht, rfl, rfl, rfl⟩ := jp_inv h
      exact lv_tableOut hx hb hd hc ht (k H locs lsr hw hl)
    · rename_i hc
      split at h
      · rename_i off ho
        obtain ⟨ht, rfl, rfl, rfl⟩ := jp_inv h
        exact lv_tableIn hx hb hd (fun q => hc (Or.inl q)) (fun q => hc (Or.inr q)) ho ht (k H locs lsr hw hl)
      · cases h
  · cases h
theorem g_lookup (C : mCx p R s m args c cells slots D tys ad cA A E M) {d0 : Int} {ps : Array (Int × Int)} {len : Nat} (hd : decode (mC M) i = .ok (.lookupswitch d0 ps, len)) (h : doLk i d0 ps ls st σ = some (.inl (i', ls', st', σ'))) (k : mG p l e R s m args below meth c cells slots Qm D ad cA A M i' ls' st' σ') : mG p l e R s m args below meth c cells slots Qm D ad cA A M i ls st σ := by
  obtain ⟨hx, hb, hml, hown, hcn, hts, hK, hTy, hEx, hce, hsl, hfr, hlo⟩ := C
  intro H locs lsr hw hl
  unfold doLk at h
  split at h
  · split at h
    · rename_i hc
      obtain ⟨ht, rfl, rfl, rfl⟩ := jp_inv h
      exact lv_lookup hx hb hd hc rfl ht (k H locs lsr hw hl)
    · cases h
  · cases h
theorem g_dup (C : mCx p R s m args c cells slots D tys ad cA A E M) (hd : decode (mC M) i = .ok (.dup, 1)) (h : doDup i ls st σ = some (.inl (i', ls', st', σ'))) (k : mG p l e R s m args below meth c cells slots Qm D ad cA A M i' ls' st' σ') : mG p l e R s m args below meth c cells slots Qm D ad cA A M i ls st σ := by
  obtain ⟨hx, hb, hml, hown, hcn, hts, hK, hTy, hEx, hce, hsl, hfr, hlo⟩ := C
  intro H locs lsr hw hl
  unfold doDup at h
  split at h
  · split at h
    · rename_i hc
      obtain ⟨rfl, rfl, rfl, rfl⟩ := nx_inv h
      exact lv_dup hx hb hd (by rw [cv_cat]; exact hc) (k H locs lsr hw hl)
    · cases h
  · cases h
theorem g_dup2 (C : mCx p R s m args c cells slots D tys ad cA A E M) (hd : decode (mC M) i = .ok (.dup2, 1)) (h : doDup2 i ls st σ = some (.inl (i', ls', st', σ'))) (k : mG p l e R s m args below meth c cells slots Qm D ad cA A M i' ls' st' σ') : mG p l e R s m args below meth c cells slots Qm D ad cA A M i ls st σ := by
  obtain ⟨hx, hb, hml, hown, hcn, hts, hK, hTy, hEx, hce, hsl, hfr, hlo⟩ := C
  intro H locs lsr hw hl
  unfold doDup2 at h
  split at h
  · split at h
    · rename_i hc
      obtain ⟨rfl, rfl, rfl, rfl⟩ := nx_inv h
      exact lv_dup2_11 hx hb hd (by rw [cv_cat]; exact hc.1) (by rw [cv_cat]; exact hc.2) (k H locs lsr hw hl)
    · cases h
  · cases h
theorem g_pop (C : mCx p R s m args c cells slots D tys ad cA A E M) (hd : decode (mC M) i = .ok (.pop, 1)) (h : doPop i ls st σ = some (.inl (i', ls', st', σ'))) (k : mG p l e R s m args below meth c cells slots Qm D ad cA A M i' ls' st' σ') : mG p l e R s m args below meth c cells slots Qm D ad cA A M i ls st σ := by
  obtain ⟨hx, hb, hml, hown, hcn, hts, hK, hTy, hEx, hce, hsl, hfr, hlo⟩ := C
  intro H locs lsr hw hl
  unfold doPop at h
  split at h
  · split at h
    · rename_i hc
      obtain ⟨rfl, rfl, rfl, rfl⟩ := nx_inv h
      exact lv_pop hx hb hd (by rw [cv_cat]; exact hc) (k H locs lsr hw hl)
    · cases h
  · cases h
theorem g_arraylength (C : mCx p R s m args c cells slots D tys ad cA A E M) (hd : decode (mC M) i = .ok (.arraylength, 1)) (h : doLen E i ls st σ = some (.inl (i', ls', st', σ'))) (k : mG p l e R s m args below meth c cells slots Qm D ad cA A M i' ls' st' σ') : mG p l e R s m args below meth c cells slots Qm D ad cA A M i ls st σ := by
  obtain ⟨hx, hb, hml, hown, hcn, hts, hK, hTy, hEx, hce, hsl, hfr, hlo⟩ := C
  intro H locs lsr hw hl
  unfold doLen at h
  split at h
  · rename_i a0 st0
    split at h
    · rename_i n hn
      obtain ⟨rfl, rfl, rfl, rfl⟩ := nx_inv h
      unfold aLen at hn
      split at hn
      · rename_i h0
        subst h0
        cases hn
        exact va_slen hx hb hEx.1 hEx.2.1 hEx.2.2.1 hw.2.2 hd (k H locs lsr hw hl)
      · split at hn
        · rename_i h0
          subst h0
          cases hn
          exact va_slen hx hb hEx.2.2.2.1 hEx.2.2.2.2.1 hEx.2.2.2.2.2.1 hw.2.2 hd (k H locs lsr hw hl)
        · split at hn
          · rename_i t n0 fl hS
            split at hn
            · rename_i ht
              cases hn
              obtain ⟨t0, ht0⟩ := hTy _ _ hS ht
              rcases (show t < 3 ∨ t = 3 ∨ t = 4 by omega) with h3 | h3 | h3
              · exact va_alen (x := (n, .inl (σ.1 a0))) hx hb hK hw.1 a0 t0 ((mWs_at hS).trans (by rw [mCell_i h3])) ht0 rfl hd (k H locs lsr hw hl)
              · subst h3
                exact va_alen (x := (n, .inr (.inl (σ.2 a0)))) hx hb hK hw.1 a0 t0 ((mWs_at hS).trans (by rw [mCell_l])) ht0 rfl hd (k H locs lsr hw hl)
              · subst h3
                exact va_alen (x := (n, .inr (.inr (.inr (.inr (fun j => (fl[j]?).map ad)))))) hx hb hK hw.1 a0 t0 ((mWs_at hS).trans (by rw [mCell_q])) ht0 rfl hd (k H locs lsr hw hl)
            · cases hn
          · cases hn
    · cases h
  · cases h
theorem g_iaload (C : mCx p R s m args c cells slots D tys ad cA A E M) (hd : decode (mC M) i = .ok (.iaload, 1)) (h : doAld E i ls st σ = some (.inl (i', ls', st', σ'))) (k : mG p l e R s m args below meth c cells slots Qm D ad cA A M i' ls' st' σ') : mG p l e R s m args below meth c cells slots Qm D ad cA A M i ls st σ := by
  obtain ⟨hx, hb, hml, hown, hcn, hts, hK, hTy, hEx, hce, hsl, hfr, hlo⟩ := C
  intro H locs lsr hw hl
  unfold doAld at h
  split at h
  · rename_i j a0 st0
    split at h
    · rename_i n f hr
      split at h
      · cases h
      · rename_i hno
        obtain ⟨rfl, rfl, rfl, rfl⟩ := nx_inv h
        unfold iRow at hr
        split at hr
        · rename_i h0
          subst h0
          cases hr
          exact va_sld hx hb hEx.1 hEx.2.1 hEx.2.2.1 hw.2.2 (mOut_in hno) hd (k H locs lsr hw hl)
        · split at hr
          · rename_i h0
            subst h0
            cases hr
            exact va_sld hx hb hEx.2.2.2.1 hEx.2.2.2.2.1 hEx.2.2.2.2.2.1 hw.2.2 (mOut_in hno) hd (k H locs lsr hw hl)
          · split at hr
            · rename_i n0 fl hS
              cases hr
              obtain ⟨t0, ht0⟩ := hTy _ _ hS (by dsimp only; omega)
              exact va_iald (n := n) (f := σ.1 a0) hx hb hK hw.1 a0 t0 ((mWs_at hS).trans (by rw [mCell_i (by decide)])) ht0 (mOut_in hno) hd (k H locs lsr hw hl)
            · cases hr
    · cases h
  · cases h
theorem g_iastore (C : mCx p R s m args c cells slots D tys ad cA A E M) (hd : decode (mC M) i = .ok (.iastore, 1)) (h : doAst i ls st σ = some (.inl (i', ls', st', σ'))) (k : mG p l e R s m args below meth c cells slots Qm D ad cA A M i' ls' st' σ') : mG p l e R s m args below meth c cells slots Qm D ad cA A M i ls st σ := by
  obtain ⟨hx, hb, hml, hown, hcn, hts, hK, hTy, hEx, hce, hsl, hfr, hlo⟩ := C
  intro H locs lsr hw hl
  unfold doAst at h
  split at h
  · rename_i x j a0 st0
    split at h
    · rename_i n fl hS
      split at h
      · cases h
      · rename_i hno
        obtain ⟨rfl, rfl, rfl, rfl⟩ := nx_inv h
        obtain ⟨t0, ht0⟩ := hTy _ _ hS (by dsimp only; omega)
        refine va_iast (n := n) (f := σ.1 a0) hx hb hK hw.1 hw.2.1 hw.2.2 a0 t0 ((mWs_at hS).trans (by rw [mCell_i (by decide)])) ht0 (mOut_in hno) hd (fun H1 locs1 hP1 hD1 hS1 => k H1 locs1 lsr ⟨?_, ?_, hS1⟩ hl)
        · rw [← mWs_upd hS (σ := σ) (τ := sI σ a0 _ _) (fun q hq => sI_1 hq) (fun q hq => rfl), mCell_i (by decide), sI_u]; exact hP1
        · rw [← mWs_upd hS (σ := σ) (τ := sI σ a0 _ _) (fun q hq => sI_1 hq) (fun q hq => rfl), mCell_i (by decide), sI_u]; exact hD1
    · cases h
  · cases h
theorem g_bastore (C : mCx p R s m args c cells slots D tys ad cA A E M) (hd : decode (mC M) i = .ok (.bastore, 1)) (h : doBst i ls st σ = some (.inl (i', ls', st', σ'))) (k : mG p l e R s m args below meth c cells slots Qm D ad cA A M i' ls' st' σ') : mG p l e R s m args below meth c cells slots Qm D ad cA A M i ls st σ := by
  obtain ⟨hx, hb, hml, hown, hcn, hts, hK, hTy, hEx, hce, hsl, hfr, hlo⟩ := C
  intro H locs lsr hw hl
  unfold doBst at h
  split at h
  · rename_i x j a0 st0
    split at h
    · rename_i n fl hS
      split at h
      · cases h
      · rename_i hno
        obtain ⟨rfl, rfl, rfl, rfl⟩ := nx_inv h
        obtain ⟨t0, ht0⟩ := hTy _ _ hS (by dsimp only; omega)
        refine va_bast (n := n) (f := σ.1 a0) hx hb hK hw.1 hw.2.1 hw.2.2 a0 t0 ((mWs_at hS).trans (by rw [mCell_i (by decide)])) ht0 (mOut_in hno) hd (fun H1 locs1 hP1 hD1 hS1 => k H1 locs1 lsr ⟨?_, ?_, hS1⟩ hl)
        · rw [← mWs_upd hS (σ := σ) (τ := sI σ a0 _ _) (fun q hq => sI_1 hq) (fun q hq => rfl), mCell_i (by decide), sI_u]; exact hP1
        · rw [← mWs_upd hS (σ := σ) (τ := sI σ a0 _ _) (fun q hq => sI_1 hq) (fun q hq => rfl), mCell_i (by decide), sI_u]; exact hD1
    · rename_i n fl hS
      split at h
      · cases h
      · rename_i hno
        obtain ⟨rfl, rfl, rfl, rfl⟩ := nx_inv h
        obtain ⟨t0, ht0⟩ := hTy _ _ hS (by dsimp only; omega)
        refine va_zast (n := n) (f := σ.1 a0) hx hb hK hw.1 hw.2.1 hw.2.2 a0 t0 ((mWs_at hS).trans (by rw [mCell_i (by decide)])) ht0 (mOut_in hno) hd (fun H1 locs1 hP1 hD1 hS1 => k H1 locs1 lsr ⟨?_, ?_, hS1⟩ hl)
        · rw [← mWs_upd hS (σ := σ) (τ := sI σ a0 _ _) (fun q hq => sI_1 hq) (fun q hq => rfl), mCell_i (by decide), sI_u]; exact hP1
        · rw [← mWs_upd hS (σ := σ) (τ := sI σ a0 _ _) (fun q hq => sI_1 hq) (fun q hq => rfl), mCell_i (by decide), sI_u]; exact hD1
    · cases h
  · cases h
theorem g_lastore (C : mCx p R s m args c cells slots D tys ad cA A E M) (hd : decode (mC M) i = .ok (.lastore, 1)) (h : doLst i ls st σ = some (.inl (i', ls', st', σ'))) (k : mG p l e R s m args below meth c cells slots Qm D ad cA A M i' ls' st' σ') : mG p l e R s m args below meth c cells slots Qm D ad cA A M i ls st σ := by
  obtain ⟨hx, hb, hml, hown, hcn, hts, hK, hTy, hEx, hce, hsl, hfr, hlo⟩ := C
  intro H locs lsr hw hl
  unfold doLst at h
  split at h
  · rename_i x j a0 st0
    split at h
    · rename_i n fl hS
      split at h
      · cases h
      · rename_i hno
        obtain ⟨rfl, rfl, rfl, rfl⟩ := nx_inv h
        obtain ⟨t0, ht0⟩ := hTy _ _ hS (by dsimp only; omega)
        refine va_last (n := n) (f := σ.2 a0) hx hb hK hw.1 hw.2.1 hw.2.2 a0 t0 ((mWs_at hS).trans (by rw [mCell_l])) ht0 (mOut_in hno) hd (fun H1 locs1 hP1 hD1 hS1 => k H1 locs1 lsr ⟨?_, ?_, hS1⟩ hl)
        · rw [← mWs_upd hS (σ := σ) (τ := sL σ a0 _ _) (fun q hq => rfl) (fun q hq => sL_2 hq), mCell_l, sL_u]; exact hP1
        · rw [← mWs_upd hS (σ := σ) (τ := sL σ a0 _ _) (fun q hq => rfl) (fun q hq => sL_2 hq), mCell_l, sL_u]; exact hD1
    · cases h
  · cases h
theorem g_baload (C : mCx p R s m args c cells slots D tys ad cA A E M) (hd : decode (mC M) i = .ok (.baload, 1)) (h : doBld i ls st σ = some (.inl (i', ls', st', σ'))) (k : mG p l e R s m args below meth c cells slots Qm D ad cA A M i' ls' st' σ') : mG p l e R s m args below meth c cells slots Qm D ad cA A M i ls st σ := by
  obtain ⟨hx, hb, hml, hown, hcn, hts, hK, hTy, hEx, hce, hsl, hfr, hlo⟩ := C
  intro H locs lsr hw hl
  unfold doBld at h
  split at h
  · rename_i j a0 st0
    split at h
    · rename_i n fl hS
      split at h
      · cases h
      · rename_i hno
        obtain ⟨rfl, rfl, rfl, rfl⟩ := nx_inv h
        obtain ⟨t0, ht0⟩ := hTy _ _ hS (by dsimp only; omega)
        exact va_bald (n := n) (f := σ.1 a0) hx hb hK hw.1 a0 t0 ((mWs_at hS).trans (by rw [mCell_i (by decide)])) ht0 (mOut_in hno) hd (k H locs lsr hw hl)
    · rename_i n fl hS
      split at h
      · cases h
      · rename_i hno
        obtain ⟨rfl, rfl, rfl, rfl⟩ := nx_inv h
        obtain ⟨t0, ht0⟩ := hTy _ _ hS (by dsimp only; omega)
        exact va_zald (n := n) (f := σ.1 a0) hx hb hK hw.1 a0 t0 ((mWs_at hS).trans (by rw [mCell_i (by decide)])) ht0 (mOut_in hno) hd (k H locs lsr hw hl)
    · cases h
  · cases h
theorem g_laload (C : mCx p R s m args c cells slots D tys ad cA A E M) (hd : decode (mC M) i = .ok (.laload, 1)) (h : doLld i ls st σ = some (.inl (i', ls', st', σ'))) (k : mG p l e R s m args below meth c cells slots Qm D ad cA A M i' ls' st' σ') : mG p l e R s m args below meth c cells slots Qm D ad cA A M i ls st σ := by
  obtain ⟨hx, hb, hml, hown, hcn, hts, hK, hTy, hEx, hce, hsl, hfr, hlo⟩ := C
  intro H locs lsr hw hl
  unfold doLld at h
  split at h
  · rename_i j a0 st0
    split at h
    · rename_i n fl hS
      split at h
      · cases h
      · rename_i hno
        obtain ⟨rfl, rfl, rfl, rfl⟩ := nx_inv h
        obtain ⟨t0, ht0⟩ := hTy _ _ hS (by dsimp only; omega)
        exact va_lald (n := n) (f := σ.2 a0) hx hb hK hw.1 a0 t0 ((mWs_at hS).trans (by rw [mCell_l])) ht0 (mOut_in hno) hd (k H locs lsr hw hl)
    · cases h
  · cases h
theorem g_aaload (C : mCx p R s m args c cells slots D tys ad cA A E M) (hd : decode (mC M) i = .ok (.aaload, 1)) (h : doQld i ls st σ = some (.inl (i', ls', st', σ'))) (k : mG p l e R s m args below meth c cells slots Qm D ad cA A M i' ls' st' σ') : mG p l e R s m args below meth c cells slots Qm D ad cA A M i ls st σ := by
  obtain ⟨hx, hb, hml, hown, hcn, hts, hK, hTy, hEx, hce, hsl, hfr, hlo⟩ := C
  intro H locs lsr hw hl
  unfold doQld at h
  split at h
  · rename_i j a0 st0
    split at h
    · rename_i n fl hS
      split at h
      · cases h
      · rename_i hno
        split at h
        · rename_i r hr
          obtain ⟨rfl, rfl, rfl, rfl⟩ := nx_inv h
          obtain ⟨t0, ht0⟩ := hTy _ _ hS (by dsimp only; omega)
          refine va_aldq (C := "PaperBread$Town") (n := n) (f := fun j => (fl[j]?).map ad) hx hb hK hw.1 a0 t0 ((mWs_at hS).trans (by rw [mCell_q])) ht0 (mOut_in hno) hd ?_
          rw [hr]
          exact k H locs lsr hw hl
        · cases h
    · cases h
  · cases h
theorem g_getfield (C : mCx p R s m args c cells slots D tys ad cA A E M) {idx : Nat} (hd : decode (mC M) i = .ok (.getfield idx, 3)) (h : doGet M idx i ls st σ = some (.inl (i', ls', st', σ'))) (k : mG p l e R s m args below meth c cells slots Qm D ad cA A M i' ls' st' σ') : mG p l e R s m args below meth c cells slots Qm D ad cA A M i ls st σ := by
  obtain ⟨hx, hb, hml, hown, hcn, hts, hK, hTy, hEx, hce, hsl, hfr, hlo⟩ := C
  intro H locs lsr hw hl
  unfold doGet at h
  split at h
  · rename_i a0 st0 ci k0 hz
    split at h
    · rename_i c' fl hS
      split at h
      · rename_i hc
        subst hc
        obtain ⟨-, Cn, T, N, hcl, hk⟩ := mRz_ok hz
        obtain ⟨hlay, hdc, -, -⟩ := mLay hcl
        have hlink : (Cond.fieldLink (mY M).cls idx Cn (T k0).2.1 (T k0).2.2.1).before args s = true := mWord hcn hts hz (by simp only [mNeed, hcl]; exact List.mem_cons_self)
        have he : (mWs ad cA σ)[a0]? = some (ad a0, .inr (c', fl.mapIdx (fun j e => mFld ad σ a0 j e))) := (mWs_at hS).trans (by rw [mCell_o])
        have go : ∀ (ev : Nat), fl[k0]? = some ev → W p l e R s m args below meth c H locs cells slots Qm (F0 m (i + 3) lsr (mFld ad σ a0 k0 ev :: st0.map (cv ad))) → W p l e R s m args below meth c H locs cells slots Qm (F0 m i lsr (.ref (ad a0) :: st0.map (cv ad))) := fun ev hev kk =>
          va_get hx hb hts hlay hown hK hw.1 a0 he hcl k0 hk hlink (fun x hxx => by rw [hdc k0] at hxx; exact hxx) (mFl_at hev) hd kk
        split at h
        · rename_i hev
          obtain ⟨rfl, rfl, rfl, rfl⟩ := nx_inv h
          exact go 0 hev (k H locs lsr hw hl)
        · rename_i hev
          obtain ⟨rfl, rfl, rfl, rfl⟩ := nx_inv h
          exact go 1 hev (k H locs lsr hw hl)
        · rename_i r hev
          obtain ⟨rfl, rfl, rfl, rfl⟩ := nx_inv h
          exact go (r + 2) hev (k H locs lsr hw hl)
        · cases h
      · cases h
    · cases h
  · cases h
theorem g_putfield (C : mCx p R s m args c cells slots D tys ad cA A E M) {idx : Nat} (hd : decode (mC M) i = .ok (.putfield idx, 3)) (h : doPut M idx i ls st σ = some (.inl (i', ls', st', σ'))) (k : mG p l e R s m args below meth c cells slots Qm D ad cA A M i' ls' st' σ') : mG p l e R s m args below meth c cells slots Qm D ad cA A M i ls st σ := by
  obtain ⟨hx, hb, hml, hown, hcn, hts, hK, hTy, hEx, hce, hsl, hfr, hlo⟩ := C
  intro H locs lsr hw hl
  unfold doPut at h
  have fin : ∀ {ci k0 : Nat} {Cn : String} {T : u_T} {N : Nat}, vwCl[ci]? = some (Cn, T, N) → mFin ci k0 = false → (T k0).2.2.2 = false := fun hcl hf => by
    unfold mFin at hf
    rw [hcl] at hf
    exact hf
  split at h
  · rename_i v a0 st0 ci k0 hz
    split at h
    · rename_i c' fl hS
      split at h
      · rename_i hc
        obtain ⟨hc, hf, hev⟩ := hc
        subst hc
        obtain ⟨-, Cn, T, N, hcl, hk⟩ := mRz_ok hz
        obtain ⟨hlay, hdc, hty, hnm⟩ := mLay hcl
        have hlink : (Cond.fieldLink (mY M).cls idx Cn (T k0).2.1 (T k0).2.2.1).before args s = true := mWord hcn hts hz (by simp only [mNeed, hcl]; exact List.mem_cons_self)
        have he : (mWs ad cA σ)[a0]? = some (ad a0, .inr (c', fl.mapIdx (fun j e => mFld ad σ a0 j e))) := (mWs_at hS).trans (by rw [mCell_o])
        have go : narrow (mTyF c' k0) (.int v) = .int v → fits (mTyF c' k0) (.int v) = true → mG p l e R s m args below meth c cells slots Qm D ad cA A M (i + 3) ls st0 (sI σ a0 k0 v) → W p l e R s m args below meth c H locs cells slots Qm (F0 m i lsr (.int v :: .ref (ad a0) :: st0.map (cv ad))) := fun hn hfit kk => by
          refine va_put hx hb hts hlay (mTyF c') hty hnm hown hK hw.1 hw.2.1 hw.2.2 a0 he hcl k0 hk hlink (fun x hxx => by rw [hdc k0] at hxx; exact hxx) (fin hcl hf) (hty k0 hk) hn hfit (List.getElem?_eq_some_iff.mp (mFl_at (ad := ad) (σ := σ) (o := a0) hev)).1 hd (fun H1 locs1 hP1 hD1 hS1 => kk H1 locs1 lsr ⟨?_, ?_, hS1⟩ hl)
          · rw [← mWs_upd hS (σ := σ) (fun q hq => sI_1 hq) (fun q hq => rfl), mCell_o, ← mFl_setI hev]; exact hP1
          · rw [← mWs_upd hS (σ := σ) (fun q hq => sI_1 hq) (fun q hq => rfl), mCell_o, ← mFl_setI hev]; exact hD1
        split at h
        · rename_i hti
          obtain ⟨rfl, rfl, rfl, rfl⟩ := nx_inv h
          exact go (by rw [hti]; rfl) (by rw [hti]; rfl) k
        · split at h
          · rename_i htb
            split at h
            · rename_i hv
              obtain ⟨rfl, rfl, rfl, rfl⟩ := nx_inv h
              refine go (by rw [htb]; rcases hv with rfl | rfl <;> rfl) (by rw [htb]; rcases hv with rfl | rfl <;> rfl) k
            · cases h
          · cases h
      · cases h
    · cases h
  · rename_i v a0 st0 ci k0 hz
    split at h
    · rename_i c' fl hS
      split at h
      · rename_i hc
        obtain ⟨hc, hf, hev, htl⟩ := hc
        subst hc
        obtain ⟨-, Cn, T, N, hcl, hk⟩ := mRz_ok hz
        obtain ⟨hlay, hdc, hty, hnm⟩ := mLay hcl
        have hlink : (Cond.fieldLink (mY M).cls idx Cn (T k0).2.1 (T k0).2.2.1).before args s = true := mWord hcn hts hz (by simp only [mNeed, hcl]; exact List.mem_cons_self)
        have he : (mWs ad cA σ)[a0]? = some (ad a0, .inr (c', fl.mapIdx (fun j e => mFld ad σ a0 j e))) := (mWs_at hS).trans (by rw [mCell_o])
        obtain ⟨rfl, rfl, rfl, rfl⟩ := nx_inv h
        refine va_put hx hb hts hlay (mTyF c') hty hnm hown hK hw.1 hw.2.1 hw.2.2 a0 he hcl k0 hk hlink (fun x hxx => by rw [hdc k0] at hxx; exact hxx) (fin hcl hf) (hty k0 hk) (by rw [htl]; rfl) (by rw [htl]; rfl) (List.getElem?_eq_some_iff.mp (mFl_at (ad := ad) (σ := σ) (o := a0) hev)).1 hd (fun H1 locs1 hP1 hD1 hS1 => k H1 locs1 lsr ⟨?_, ?_, hS1⟩ hl)
        · rw [← mWs_upd hS (σ := σ) (τ := sL σ a0 k0 v) (fun q hq => rfl) (fun q hq => sL_2 hq), mCell_o, ← mFl_setL hev]; exact hP1
        · rw [← mWs_upd hS (σ := σ) (τ := sL σ a0 k0 v) (fun q hq => rfl) (fun q hq => sL_2 hq), mCell_o, ← mFl_setL hev]; exact hD1
      · cases h
    · cases h
  · cases h
theorem g_getstatic (C : mCx p R s m args c cells slots D tys ad cA A E M) {idx : Nat} (hd : decode (mC M) i = .ok (.getstatic idx, 3)) (h : doGets M idx i ls st σ = some (.inl (i', ls', st', σ'))) (k : mG p l e R s m args below meth c cells slots Qm D ad cA A M i' ls' st' σ') : mG p l e R s m args below meth c cells slots Qm D ad cA A M i ls st σ := by
  obtain ⟨hx, hb, hml, hown, hcn, hts, hK, hTy, hEx, hce, hsl, hfr, hlo⟩ := C
  intro H locs lsr hw hl
  unfold doGets at h
  split at h
  · rename_i hz
    obtain ⟨rfl, rfl, rfl, rfl⟩ := nx_inv h
    exact va_gets hx hb hEx.2.2.2.2.2.2 hw.2.2 hown (mWord hcn hts hz (by simp only [mNeed]; exact List.mem_cons_self)) (fun x hxx => hxx) hd (k H locs lsr hw hl)
  · cases h
end STEP
