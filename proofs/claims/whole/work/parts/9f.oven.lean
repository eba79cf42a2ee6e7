theorem pNum_le {T : Nat → Int32} {n lo hi q v q' : Nat} (h : pNum T n lo hi q = .ok (v, q')) : lo ≤ v ∧ v ≤ hi := by
  unfold pNum at h
  split at h
  · split at h
    · next z =>
      have e : nmb T n q = v := congrArg Prod.fst (Except.ok.inj h)
      rw [← e]; exact z
    · exact absurd h (by simp)
  · exact absurd h (by simp)
theorem pOpt_le {T : Nat → Int32} {n k hi q v q' : Nat} (h : pOpt T n k hi q = .ok (v, q')) : v ≤ hi := by
  unfold pOpt at h
  split at h
  · exact (pNum_le h).2
  · have e : 0 = v := congrArg Prod.fst (Except.ok.inj h)
    omega
def pOven (T : Nat → Int32) (n : Nat) (c : Nat → Int32) (w : Nat → Int64) (q : Nat) : Except (Nat × Nat) ((Nat → Int32) × (Nat → Int64) × Nat) :=
  if cN c 1 = 4 then .error (6, pl T n q) else
  match pNew T n w (cN c 0) (cN c 1) (cN c 2) (bh T n q) with
  | .error e => .error e
  | .ok (x, q1) =>
    match pOpt T n 3 16 q1 with
    | .error e => .error e
    | .ok (a, q2) => if isS T n q2 59 then .ok (cV c (cN c 1) (nI a), updL w (8 + cN c 1) x, bh T n q2) else .error (er T n q2)
theorem rV55_b {E : mEn} {d : Nat} {Q : mPost} {τ : mSt} {x : Int64} {a : Int32} {u : Value} (h : ¬ τ.1 6 9 = 0) : WP E (d + 4) mTe_readOven 55 [.ref 5, .ref 35, .long x, uu, u] [.int a] τ Q = Q none τ := by
  rw [bTe_readOven_55 T35, Te_endsPart_b h, tl_s, bTe_readOven_61 T35, if_pos rfl, bTe_readOven_71 T35]
theorem rV29_b {E : mEn} {d : Nat} {Q : mPost} {τ : mSt} {x : Int64} {u2 u3 u4 : Value} (h : ¬ τ.1 6 9 = 0) : WP E (d + 4) mTe_readOven 29 [.ref 5, .ref 35, u2, u3, u4] [.long x] τ Q = Q none τ := by
  rw [bTe_readOven_29 T35, To_skips_b h, tl_s, bTe_readOven_38 T35, if_pos rfl, bTe_readOven_54 T35, rV55_b h]
theorem rV18_b {E : mEn} {d : Nat} {Q : mPost} {τ : mSt} {u2 u3 u4 : Value} (h : ¬ τ.1 6 9 = 0) : WP E (d + 4) mTe_readOven 18 [.ref 5, .ref 35, u2, u3, u4] [] τ Q = Q none τ := by
  rw [bTe_readOven_18 T35, To_takeNewName_b T35 h, tl_s, rV29_b h]
theorem Te_readOven {E : mEn} {d : Nat} {Q : mPost} {τ : mSt} {T : Nat → Int32} {n q : Nat} {c : Nat → Int32} {w : Nat → Int64} {u2 u3 u4 : Value} (h : COk τ T n q) (hw : isW T n q 2 = true) (hD : DR τ c w) (h1 : ∀ c' w' q', pOven T n c w q = .ok (c', w', q') → ∀ υ, qt SRd τ υ → COk υ T n q' → DR υ c' w' → (∀ k, υ.1 44 k = τ.1 44 k) → Q none υ) (h2 : ∀ e, pOven T n c w q = .error e → ∀ υ, qt SRd τ υ → CBad υ e → (∀ k, υ.1 44 k = τ.1 44 k) → Q none υ) : WP E (d + 4) mTe_readOven 0 [.ref 5, .ref 35, u2, u3, u4] [] τ Q := by
  have hD' := hD
  obtain ⟨np, no, nl, nk, hT, h17, hk16, hZ⟩ := hD'
  obtain ⟨hN, e0, e1, e2, e3⟩ := TRel_N hT
  have n8 : no ≤ 4 := hN.2.1
  unfold pOven at h1 h2
  rw [e0, e1, e2] at h1 h2
  have S44 : ∀ {φ : mSt}, qt S6b τ φ → ∀ k, φ.1 44 k = τ.1 44 k := fun q1 k => (q1 44 k rfl).1
  rw [bTe_readOven_0 T35, hT.2.2.1.1]
  by_cases f8 : no = 4
  · rw [if_pos f8] at h2
    rw [if_pos (nI_le (by omega) (by omega)), bTe_readOven_14 T35, bTe_readOven_15 T35]
    refine Te_beginPart_f (k := 2) h (fun υ q1 g => ?_)
    rw [tl_n, rV18_b (CBad_n g)]
    exact h2 _ rfl υ (qt_mono q1 (fun o k => S6b_R)) g (S44 q1)
  rw [if_neg f8] at h1 h2
  rw [if_neg (nI_ge (by omega) (by omega)), bTe_readOven_10 T35, bTe_readOven_15 T35]
  refine Te_beginPart h (by omega) hw (fun φ q1 g1 => ?_)
  have hN1 : NOk φ 35 w np no nl := (TRel_N (TRel_q q1 (fun j k hj _ _ => S6b_D (by omega)) hT)).1
  rw [tl_n, bTe_readOven_18 T35]
  refine To_takeNewName T35 g1 hN1 (fun x q' ex ψ q2 g2 => ?_) (fun e ee υ q2 g2 => ?_)
  rotate_left
  · rw [ee] at h2
    rw [tl_s, rV29_b (CBad_n g2)]
    exact h2 _ rfl υ (qt_mono (qt_tr q1 q2) (fun o k => S6b_R)) g2 (S44 (qt_tr q1 q2))
  rw [ex] at h1 h2
  dsimp only at h1 h2
  have hx := pNew_nz ex
  rw [tl_s, bTe_readOven_29 T35]
  have q12 := qt_tr q1 q2
  have fin : ∀ (a q2' : Nat) (φ : mSt), pOpt T n 3 16 q' = .ok (a, q2') → qt S6b τ φ → COk φ T n q2' → WP E (d + 4) mTe_readOven 55 [.ref 5, .ref 35, .long x, uu, u4] [.int (nI a)] φ Q := fun a q2' φ ea qf g => by
    rw [ea] at h1 h2
    dsimp only at h1 h2
    rw [bTe_readOven_55 T35]
    refine Te_endsPart g (fun z υ q3 g3 => ?_) (fun z υ q3 g3 => ?_)
    · have h1' := h1 _ _ _ (if_pos z)
      have qu := qt_tr qf q3
      have hT3 : TRel υ 35 c w np no nl nk 0 := TRel_q qu (fun j k hj _ _ => S6b_D (by omega)) hT
      obtain ⟨z1, z2, z3⟩ := hZ
      rw [tl_s, bTe_readOven_61 T35, if_neg i10, bTe_readOven_64 T35]
      refine Tw_addOven T35 hT3 (by omega) (pOpt_le ea) hx z3 (fun ω q4 g4 g5 g6 => ?_)
      rw [tl_n, bTe_readOven_71 T35]
      refine h1' ω (qt_tr (qt_mono qu (fun o k => S6b_R)) (qt_mono q4 (fun o k => STc_R))) ?_ ⟨np, no + 1, nl, nk, g4, ?_, hk16, ⟨fun p a b => ?_, fun k a b => ?_, ?_⟩⟩ (fun k => (g5 k).trans (S44 qu k))
      · exact COk_q g3 q4 (fun k => rfl) (fun k => rfl) (fun k => rfl)
      · exact g6.trans ((qu 35 17 rfl).1.trans h17)
      · unfold cV
        rw [upd_n (by omega), upd_n (by omega), upd_n (by omega), upd_n (by omega), upd_n (by omega), upd_n (by omega)]
        exact z1 p a b
      · unfold cV
        rw [upd_n (by omega), upd_n (by omega)]
        exact z2 k (by omega) b
      · unfold cV
        rw [upd_n (by omega), upd_n (by omega)]
        exact z3
    · have h2' := h2 _ (if_neg z)
      have qu := qt_tr qf q3
      rw [tl_s, bTe_readOven_61 T35, if_pos rfl, bTe_readOven_71 T35]
      exact h2' υ (qt_mono qu (fun o k => S6b_R)) g3 (S44 qu)
  refine To_skips g2 (by omega) (fun z υ q3 g3 => ?_) (fun z => ?_)
  · rw [tl_s, bTe_readOven_38 T35, if_neg i10, bTe_readOven_41 T35, show (0 : Int32) = nI 0 from rfl]
    refine To_takeNumber g3 (by omega) (by omega) (fun v q'' ev ω q4 g4 => ?_) (fun e ee ω q4 g4 => ?_)
    · rw [tl_s, bTe_readOven_51 T35]
      exact fin v q'' ω (by unfold pOpt; rw [if_pos z]; exact ev) (qt_tr q12 (qt_tr q3 q4)) g4
    · have ep : pOpt T n 3 16 q' = .error e := by unfold pOpt; rw [if_pos z]; exact ee
      rw [ep] at h2
      rw [tl_s, bTe_readOven_51 T35, rV55_b (CBad_n g4)]
      have qu := qt_tr q12 (qt_tr q3 q4)
      exact h2 _ rfl ω (qt_mono qu (fun o k => S6b_R)) g4 (S44 qu)
  · rw [tl_s, bTe_readOven_38 T35, if_pos rfl, bTe_readOven_54 T35]
    exact fin 0 q' ψ (by unfold pOpt; rw [if_neg z]) q12 g2
