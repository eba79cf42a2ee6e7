theorem pName_ne {T : Nat → Int32} {n lo m q v q' : Nat} {w : Nat → Int64} {gv : Int32} (hm : m ≤ 8) (h : pName T n w lo m gv q = .ok (v, q')) : ¬ nI v = gv := by
  unfold pName at h
  split at h
  · rcases fnd_s (w := w) (lo := lo) (x := nmL T n q) m 0 with y | ⟨k, -, kn, ek, -⟩
    · rw [if_pos y] at h; exact absurd h (by simp)
    · split at h
      · exact absurd h (by simp)
      · split at h
        · exact absurd h (by simp)
        · next z =>
          have e : (fnd w lo (nmL T n q) m 0).toNatClampNeg = v := congrArg Prod.fst (Except.ok.inj h)
          rw [ek, nI_clamp (by omega)] at e
          rw [← e, ← ek]; exact z
  · exact absurd h (by simp)
theorem Te_readPromise {E : mEn} {d : Nat} {Q : mPost} {τ : mSt} {T : Nat → Int32} {n q t np no nl : Nat} {w : Nat → Int64} (ht : isT t) (n8 : np ≤ 8) (h : COk τ T n q) (nO : ∀ {φ : mSt}, qt S9b τ φ → NOk φ t w np no nl)
    (h1 : ∀ s l p r f q', pPart T n w np nl q = .ok ((s, l, p, r, f), q') → l < nl → p < np → r < np → p ≠ r → 1 ≤ s → s ≤ 99 → f ≤ 999 → ∀ υ, qt S9b τ υ → COk υ T n q' → υ.1 9 0 = nI s → υ.1 9 1 = nI l → υ.1 9 2 = nI p → υ.1 9 3 = nI r → υ.1 9 4 = nI f → Q none υ)
    (h2 : ∀ e, pPart T n w np nl q = .error e → ∀ υ, qt S9b τ υ → CBad υ e → Q none υ) : WP E (d + 4) mTe_readPromise 0 [.ref 5, .ref (t + 1)] [] τ Q := by
  unfold pPart at h1 h2
  have bad : ∀ {φ υ : mSt} {e : Nat × Nat}, qt S9b τ φ → CBad φ e → qt S9 φ υ → (∀ υ, qt S9b τ υ → CBad υ e → Q none υ) → Q none υ := fun q1 g q2 k => k _ (qt_tr q1 (qt_mono q2 (fun o k => S9_b))) ⟨(q2 6 9 rfl).1.trans g.1, (q2 6 10 rfl).1.trans g.2.1, g.2.2.1, g.2.2.2⟩
  have m6 : ∀ {φ υ : mSt}, qt S9b τ φ → qt S6b φ υ → qt S9b τ υ := fun q1 q2 => qt_tr q1 (qt_mono q2 (fun o k => S6_9))
  have m9 : ∀ {φ : mSt} {k : Nat} {v : Int32}, qt S9b τ φ → qt S9b τ (sI φ 9 k v) := fun q1 => qt_sI q1 (by simp [S9b])
  have c9 : ∀ {φ : mSt} {k q : Nat} {v : Int32}, COk φ T n q → COk (sI φ 9 k v) T n q := fun g => COk_q (S := S9) g (qt_sI qt_rf rfl) (fun _ => rfl) (fun _ => rfl) (fun _ => rfl)
  rw [bTe_readPromise_0 ht]
  refine To_word h (by omega) (fun q1 e1 φ1 s1 g1 => ?_) (fun e ee υ s1 g1 => ?_)
  rotate_left
  · rw [ee] at h2
    rw [tl_n]
    exact rR9_b ht (CBad_n g1) (fun ω r => bad (m6 qt_rf s1) g1 r (h2 _ rfl))
  have t1 := m6 qt_rf s1
  rw [e1] at h1 h2
  dsimp only at h1 h2
  rw [tl_n, bTe_readPromise_9 ht, show (1 : Int32) = nI 1 from rfl]
  refine To_takeNumber g1 (by omega) (by omega) (fun s q2 e2 φ2 s2 g2 => ?_) (fun e ee υ s2 g2 => ?_)
  rotate_left
  · rw [ee] at h2
    rw [tl_s, show (0 : Int32) = nI 0 from rfl]
    exact rR24_b ht (CBad_n g2) (fun ω r => bad (m6 t1 s2) g2 r (h2 _ rfl))
  have t2 := m9 (k := 0) (v := nI s) (m6 t1 s2)
  have ls := pNum_le e2
  rw [e2] at h1 h2
  dsimp only at h1 h2
  rw [tl_s, bTe_readPromise_24 ht, if_neg (by decide), show (0 : Int32).toNatClampNeg = 0 from rfl]
  refine To_word (c9 g2) (by omega) (fun q3 e3 φ3 s3 g3 => ?_) (fun e ee υ s3 g3 => ?_)
  rotate_left
  · rw [ee] at h2
    rw [tl_n]
    exact rR34_b ht (CBad_n g3) (fun ω r => bad (m6 t2 s3) g3 r (h2 _ rfl))
  have t3 := m6 t2 s3
  rw [e3] at h1 h2
  dsimp only at h1 h2
  have a0 : φ3.1 9 0 = nI s := (s3 9 0 rfl).1
  rw [tl_n, bTe_readPromise_34 ht]
  refine To_takeName ht (by omega) g3 (nO t3) (fun l q4 e4 ll φ4 s4 g4 => ?_) (fun e v ee υ s4 g4 => ?_)
  rotate_left
  · rw [show pName T n w 12 nl (-1) q3 = .error e from ee] at h2
    rw [tl_s, show (1 : Int32) = nI 1 from rfl]
    exact rR49_b ht (CBad_n g4) (fun ω r => bad (m6 t3 s4) g4 r (h2 _ rfl))
  have t4 := m9 (k := 1) (v := nI l) (m6 t3 s4)
  rw [show pName T n w 12 nl (-1) q3 = .ok (l, q4) from e4] at h1 h2
  dsimp only at h1 h2
  rw [tl_s, bTe_readPromise_49 ht, if_neg (by decide), show (1 : Int32).toNatClampNeg = 1 from rfl]
  refine To_word (c9 g4) (by omega) (fun q5 e5 φ5 s5 g5 => ?_) (fun e ee υ s5 g5 => ?_)
  rotate_left
  · rw [ee] at h2
    rw [tl_n]
    exact rR59_b ht (CBad_n g5) (fun ω r => bad (m6 t4 s5) g5 r (h2 _ rfl))
  have t5 := m6 t4 s5
  rw [e5] at h1 h2
  dsimp only at h1 h2
  have b0 : φ5.1 9 0 = nI s := (s5 9 0 rfl).1.trans ((s4 9 0 rfl).1.trans a0)
  have b1 : φ5.1 9 1 = nI l := (s5 9 1 rfl).1
  rw [tl_n, bTe_readPromise_59 ht, show (0 : Int32) = nI 0 from rfl]
  refine To_takeName ht (by omega) g5 (nO t5) (fun p q6 e6 lp φ6 s6 g6 => ?_) (fun e v ee υ s6 g6 => ?_)
  rotate_left
  · rw [show pName T n w 0 np (-1) q5 = .error e from ee] at h2
    rw [tl_s]
    exact rR74_b ht (CBad_n g6) (fun ω r => bad (m6 t5 s6) g6 r (h2 _ rfl))
  have t6 := m9 (k := 2) (v := nI p) (m6 t5 s6)
  rw [show pName T n w 0 np (-1) q5 = .ok (p, q6) from e6] at h1 h2
  dsimp only at h1 h2
  rw [tl_s, bTe_readPromise_74 ht, mOut_f (by omega) (by omega), nI_clamp (by omega), if_neg (by decide)]
  refine To_word (c9 g6) (by omega) (fun q7 e7 φ7 s7 g7 => ?_) (fun e ee υ s7 g7 => ?_)
  rotate_left
  · rw [ee] at h2
    rw [tl_n]
    exact rR84_b ht (CBad_n g7) (fun ω r => bad (m6 t6 s7) g7 r (h2 _ rfl))
  have t7 := m6 t6 s7
  rw [e7] at h1 h2
  dsimp only at h1 h2
  have d0 : φ7.1 9 0 = nI s := (s7 9 0 rfl).1.trans ((s6 9 0 rfl).1.trans b0)
  have d1 : φ7.1 9 1 = nI l := (s7 9 1 rfl).1.trans ((s6 9 1 rfl).1.trans b1)
  have d2 : φ7.1 9 2 = nI p := (s7 9 2 rfl).1
  rw [tl_n, bTe_readPromise_84 ht, mOut_f (by omega) (by omega), if_neg (by decide), d2, show (0 : Int32) = nI 0 from rfl]
  refine To_takeName ht (by omega) g7 (nO t7) (fun r q8 e8 lr φ8 s8 g8 => ?_) (fun e v ee υ s8 g8 => ?_)
  rotate_left
  · rw [show pName T n w 0 np (nI p) q7 = .error e from ee] at h2
    rw [tl_s]
    exact rR104_b ht (CBad_n g8) (fun ω r => bad (m6 t7 s8) g8 r (h2 _ rfl))
  have t8 := m9 (k := 3) (v := nI r) (m6 t7 s8)
  have e8' : pName T n w 0 np (nI p) q7 = .ok (r, q8) := e8
  have ne : p ≠ r := fun g => pName_ne n8 e8' (by rw [g])
  rw [e8'] at h1 h2
  dsimp only at h1 h2
  rw [tl_s, bTe_readPromise_104 ht, mOut_f (by omega) (by omega), nI_clamp (by omega), if_neg (by decide)]
  have k0 : (sI φ8 9 3 (nI r)).1 9 0 = nI s := (s8 9 0 rfl).1.trans d0
  have k1 : (sI φ8 9 3 (nI r)).1 9 1 = nI l := (s8 9 1 rfl).1.trans d1
  have k2 : (sI φ8 9 3 (nI r)).1 9 2 = nI p := (s8 9 2 rfl).1.trans d2
  have k3 : (sI φ8 9 3 (nI r)).1 9 3 = nI r := rfl
  have g8' := c9 (k := 3) (v := nI r) g8
  generalize sI φ8 9 3 (nI r) = ψ at *
  have fin : ∀ (f q9 : Nat) (φ : mSt), pOpt T n 14 999 q8 = .ok (f, q9) → qt S6b ψ φ → COk φ T n q9 → WP E (d + 4) mTe_readPromise 137 [.ref 5, .ref (t + 1)] [.int (nI f), .int (nI 4), .ref 9] φ Q := fun f q9 φ ef qf g => by
    rw [ef] at h1
    dsimp only at h1
    rw [bTe_readPromise_137 ht, mOut_f (by omega) (by omega), nI_clamp (by omega), if_neg (by decide)]
    exact h1 _ _ _ _ _ _ rfl ll lp lr ne ls.1 ls.2 (pOpt_le ef) _ (m9 (m6 t8 qf)) (c9 g) ((qf 9 0 rfl).1.trans k0) ((qf 9 1 rfl).1.trans k1) ((qf 9 2 rfl).1.trans k2) ((qf 9 3 rfl).1.trans k3) rfl
  refine To_skips g8' (by omega) (fun z φ9 s9 g9 => ?_) (fun z => ?_)
  · rw [tl_s, bTe_readPromise_119 ht, if_neg i10, bTe_readPromise_122 ht, show (0 : Int32) = nI 0 from rfl]
    refine To_takeNumber g9 (by omega) (by omega) (fun v q'' ev ω s10 g10 => ?_) (fun e ee ω s10 g10 => ?_)
    · rw [tl_s, bTe_readPromise_133 ht]
      exact fin v q'' ω (by unfold pOpt; rw [if_pos z]; exact ev) (qt_tr s9 s10) g10
    · have ep : pOpt T n 14 999 q8 = .error e := by unfold pOpt; rw [if_pos z]; exact ee
      rw [ep] at h2
      rw [tl_s, bTe_readPromise_133 ht]
      exact rR137 (k := 4) ht (by omega) (fun υ r => bad (m6 t8 (qt_tr s9 s10)) g10 r (h2 _ rfl))
  · rw [tl_s, bTe_readPromise_119 ht, if_pos rfl, bTe_readPromise_136 ht]
    exact fin 0 q8 ψ (by unfold pOpt; rw [if_neg z]) qt_rf g8'
