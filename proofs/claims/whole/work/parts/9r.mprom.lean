/-! the reference's reading of a promise's words, at any place of its row -/
def pPt (T : Nat → Int32) (n : Nat) (w : Nat → Int64) (np nl q1 : Nat) : Except (Nat × Nat) ((Nat × Nat × Nat × Nat × Nat) × Nat) :=
  match pNum T n 1 99 q1 with
  | .error e => .error e
  | .ok (s, q2) => match pWd T n 11 q2 with
  | .error e => .error e
  | .ok q3 => match pName T n w 12 nl (-1) q3 with
  | .error e => .error e
  | .ok (l, q4) => match pWd T n 12 q4 with
  | .error e => .error e
  | .ok q5 => match pName T n w 0 np (-1) q5 with
  | .error e => .error e
  | .ok (p, q6) => match pWd T n 13 q6 with
  | .error e => .error e
  | .ok q7 => match pName T n w 0 np (nI p) q7 with
  | .error e => .error e
  | .ok (r, q8) => match pOpt T n 14 999 q8 with
  | .error e => .error e
  | .ok (f, q9) => .ok ((s, l, p, r, f), q9)
theorem pPart_t {T : Nat → Int32} {n np nl q : Nat} {w : Nat → Int64} (h : isW T n q 10 = true) : pPart T n w np nl q = pPt T n w np nl (bh T n q) := by
  unfold pPart pWd
  rw [if_pos h]
  rfl
theorem pTold_e {T : Nat → Int32} {n lo m q : Nat} {w : Nat → Int64} {e : Nat × Nat} {gv : Int32} (h : pTold T n w lo m q = .error e) : pName T n w lo m gv q = .error e := by
  unfold pTold at h
  unfold pName
  by_cases z : isN T n q = true
  · rw [if_pos z] at h ⊢
    by_cases y : fnd w lo (nmL T n q) m 0 = -1
    · rw [if_pos y] at h ⊢; exact congrArg _ (Except.error.inj h)
    · rw [if_neg y] at h; exact absurd h (by simp)
  · rw [if_neg z] at h ⊢; exact congrArg _ (Except.error.inj h)
theorem pTold_o {T : Nat → Int32} {n lo m q v : Nat} {w : Nat → Int64} {gv : Int32} (hm : m ≤ 8) (h : pTold T n w lo m q = .ok v) : pName T n w lo m gv q = if nI v = gv then .error (5, pl T n q) else .ok (v, bh T n q) := by
  unfold pTold at h
  unfold pName
  by_cases z : isN T n q = true
  · rw [if_pos z] at h ⊢
    by_cases y : fnd w lo (nmL T n q) m 0 = -1
    · rw [if_pos y] at h; exact absurd h (by simp)
    · rw [if_neg y] at h ⊢
      have e' := Except.ok.inj h
      rcases fnd_s (w := w) (lo := lo) (x := nmL T n q) m 0 with g | ⟨k, -, kn, ek, -⟩
      · exact absurd g y
      · rw [ek, nI_clamp (by omega)] at e'
        rw [ek, nI_clamp (by omega), e']
  · rw [if_neg z] at h; exact absurd h (by simp)
def SPt (W o k : Nat) : Bool := S66b o k || (o == 171 && decide (W ≤ k) && decide (k < W + 5))
theorem S66_P {W o k : Nat} (h : S66b o k = true) : SPt W o k = true := by simp only [SPt, h, Bool.true_or]
theorem qt_P {W : Nat} {σ τ : mSt} (h : qt S66b σ τ) : qt (SPt W) σ τ := qt_mono h (fun _ _ => S66_P)
theorem qt_Ps {W j : Nat} {σ τ : mSt} {v : Int32} (h : qt (SPt W) σ τ) (hj : j < 5) : qt (SPt W) σ (sI τ 171 (W + j) v) := qt_sI h (by
  unfold SPt
  rw [Bool.or_eq_true]
  refine Or.inr ?_
  rw [Bool.and_eq_true, Bool.and_eq_true]
  exact ⟨⟨rfl, decide_eq_true (by omega)⟩, decide_eq_true (by omega)⟩)
theorem BOk_P {W b np no nl : Nat} {w : Nat → Int64} {σ τ : mSt} (hW : 2403 ≤ W) (h : BOk σ b w np no nl) (q : qt (SPt W) σ τ) : BOk τ b w np no nl :=
  BOk_q h q (fun k hk => by have := h.1; simp only [SPt, S66b, Bool.or_eq_false_iff, Bool.and_eq_false_iff, beq_eq_false_iff_ne, decide_eq_false_iff_not, ne_eq]; omega) (fun k hk => by simp only [SPt, S66b, Bool.or_eq_false_iff, Bool.and_eq_false_iff, beq_eq_false_iff_ne, decide_eq_false_iff_not, ne_eq]; omega)
theorem P_rd {W j : Nat} {σ τ : mSt} (q : qt S66b σ τ) : τ.1 171 j = σ.1 171 j := (q 171 j rfl).1
section MP
variable {E : mEn} {d : Nat} {Q : mPost} {τ : mSt} {e : Nat × Nat} {W : Nat} {s a : Int32}
theorem mR119_b (hW : W + 5 ≤ 3000) (h : MBad τ e) (hQ : ∀ υ, qt (SPt W) τ υ → MBad υ e → Q none υ) : WP E d mMo_readPart 119 [.ref 166, .int a, .int (nI W)] [] τ Q := by
  rw [bMo_readPart_119, nI_add, mOut_f (by omega) (by omega), if_neg (by decide), nI_clamp (by omega), if_pos (Int32.not_le.mp (MBad_n (MBad_s h)).2), bMo_readPart_142]
  exact hQ _ (qt_Ps qt_rf (by omega)) (MBad_s h)
theorem mR114_b (hW : W + 5 ≤ 3000) (h : MBad τ e) (hQ : ∀ υ, qt (SPt W) τ υ → MBad υ e → Q none υ) : WP E (d + 1) mMo_readPart 114 [.ref 166, .int a, .int (nI W)] [] τ Q := by
  rw [bMo_readPart_114, Mo_must_b h, tl_n]
  exact mR119_b hW h hQ
theorem mR78_b (hW : W + 5 ≤ 3000) (h : MBad τ e) (hQ : ∀ υ, qt (SPt W) τ υ → MBad υ e → Q none υ) : WP E (d + 1) mMo_readPart 78 [.ref 166, .int a, .int (nI W)] [.int s, .int (nI (W + 3)), .ref 171] τ Q := by
  rw [bMo_readPart_78, mOut_f (by omega) (by omega), if_neg (by decide), nI_clamp (by omega), if_pos (MBad_n (MBad_s h)).1]
  exact mR114_b hW (MBad_s h) (fun υ q g => hQ υ (qt_tr (qt_Ps qt_rf (by omega)) q) g)
theorem mR65_b (hW : W + 5 ≤ 3000) (h : MBad τ e) (hQ : ∀ υ, qt (SPt W) τ υ → MBad υ e → Q none υ) : WP E (d + 7) mMo_readPart 65 [.ref 166, .int a, .int (nI W)] [] τ Q := by
  rw [bMo_readPart_65, Mo_told_b h, tl_s, nI_add]
  exact mR78_b hW h hQ
theorem mR56_b (hW : W + 5 ≤ 3000) (h : MBad τ e) (hQ : ∀ υ, qt (SPt W) τ υ → MBad υ e → Q none υ) : WP E (d + 7) mMo_readPart 56 [.ref 166, .int a, .int (nI W)] [.int s, .int (nI (W + 2)), .ref 171] τ Q := by
  rw [bMo_readPart_56, mOut_f (by omega) (by omega), if_neg (by decide), nI_clamp (by omega)]
  refine Mo_isTo_a (fun b _ => ?_)
  rw [tl_s, bMo_readPart_62, Mo_must_b (MBad_s h), tl_n]
  exact mR65_b hW (MBad_s h) (fun υ q g => hQ υ (qt_tr (qt_Ps (j := 2) qt_rf (by omega)) q) g)
theorem mR43_b (hW : W + 5 ≤ 3000) (h : MBad τ e) (hQ : ∀ υ, qt (SPt W) τ υ → MBad υ e → Q none υ) : WP E (d + 7) mMo_readPart 43 [.ref 166, .int a, .int (nI W)] [] τ Q := by
  rw [bMo_readPart_43, Mo_readTold_b h, tl_s, nI_add]
  exact mR56_b hW h hQ
theorem mR34_b (hW : W + 5 ≤ 3000) (h : MBad τ e) (hQ : ∀ υ, qt (SPt W) τ υ → MBad υ e → Q none υ) : WP E (d + 7) mMo_readPart 34 [.ref 166, .int a, .int (nI W)] [.int s, .int (nI (W + 1)), .ref 171] τ Q := by
  rw [bMo_readPart_34, mOut_f (by omega) (by omega), if_neg (by decide), nI_clamp (by omega)]
  refine Mo_isFrom_a (fun b _ => ?_)
  rw [tl_s, bMo_readPart_40, Mo_must_b (MBad_s h), tl_n]
  exact mR43_b hW (MBad_s h) (fun υ q g => hQ υ (qt_tr (qt_Ps (j := 1) qt_rf (by omega)) q) g)
theorem mR21_b (hW : W + 5 ≤ 3000) (h : MBad τ e) (hQ : ∀ υ, qt (SPt W) τ υ → MBad υ e → Q none υ) : WP E (d + 7) mMo_readPart 21 [.ref 166, .int a, .int (nI W)] [] τ Q := by
  rw [bMo_readPart_21, Mo_readTold_b h, tl_s, nI_1]
  exact mR34_b hW h hQ
theorem mR12_b (hW : W + 5 ≤ 3000) (h : MBad τ e) (hQ : ∀ υ, qt (SPt W) τ υ → MBad υ e → Q none υ) : WP E (d + 7) mMo_readPart 12 [.ref 166, .int a, .int (nI W)] [.int s, .int (nI W), .ref 171] τ Q := by
  rw [bMo_readPart_12, mOut_f (by omega) (by omega), if_neg (by decide), nI_clamp (by omega)]
  refine Mo_isOf_a (fun b _ => ?_)
  rw [tl_s, bMo_readPart_18, Mo_must_b (MBad_s h), tl_n]
  exact mR21_b hW (MBad_s h) (fun υ q g => hQ υ (qt_tr (qt_Ps (j := 0) qt_rf (by omega)) q) g)
end MP
theorem Mo_readPart {E : mEn} {d : Nat} {Q : mPost} {τ : mSt} {T : Nat → Int32} {n q b W np no nl : Nat} {w : Nat → Int64} (hW : 2403 ≤ W) (hW2 : W + 5 ≤ 3000) (h : MOk τ T n q) (hB : BOk τ b w np no nl)
    (h1 : ∀ s l p r f q9, pPt T n w np nl q = .ok ((s, l, p, r, f), q9) → l < nl → p < np → r < np → p ≠ r → 1 ≤ s → s ≤ 99 → f ≤ 999 → ∀ υ, qt (SPt W) τ υ → MOk υ T n q9 → υ.1 171 W = nI s → υ.1 171 (W + 1) = nI l → υ.1 171 (W + 2) = nI p → υ.1 171 (W + 3) = nI r → υ.1 171 (W + 4) = nI f → Q none υ)
    (h2 : ∀ e, pPt T n w np nl q = .error e → ∀ υ, qt (SPt W) τ υ → MBad υ e → Q none υ) : WP E (d + 7) mMo_readPart 0 [.ref 166, .int (nI b), .int (nI W)] [] τ Q := by
  have bad : ∀ {φ : mSt} {e : Nat × Nat}, qt (SPt W) τ φ → (∀ υ, qt (SPt W) τ υ → MBad υ e → Q none υ) → ∀ υ, qt (SPt W) φ υ → MBad υ e → Q none υ := fun q1 k υ q2 g => k υ (qt_tr q1 q2) g
  obtain ⟨n8, l8⟩ : np ≤ 8 ∧ nl ≤ 8 := ⟨hB.2.1, hB.2.2.2.1⟩
  unfold pPt at h1 h2
  rw [bMo_readPart_0, show (1 : Int32) = nI 1 from rfl]
  refine Mo_count h (by omega) (by omega) (fun s q1 ex φ1 s1 gφ1 => ?_) (fun e ee υ s1 g => ?_)
  rotate_left
  · rw [ee] at h2
    rw [tl_s]
    exact mR12_b hW2 g (bad (qt_P s1) (h2 _ rfl))
  rw [ex] at h1 h2
  dsimp only at h1 h2
  have sB := pNum_le ex
  rw [tl_s, bMo_readPart_12, mOut_f (by omega) (by omega), if_neg (by decide), nI_clamp (by omega)]
  have gψ1 := MOk_s (j := W) (v := nI s) gφ1
  have tψ1 : qt (SPt W) τ (sI φ1 171 W (nI s)) := qt_Ps (j := 0) (qt_P s1) (by omega)
  have v0 : (sI φ1 171 W (nI s)).1 171 W = nI s := sI_e
  generalize sI φ1 171 W (nI s) = ψ1 at *
  rw [Mo_isOf gψ1, tl_s, bMo_readPart_18]
  refine Mo_mustW gψ1 (fun q2 e2 φ2 s2 gφ2 => ?_) (fun e ee υ s2 g => ?_)
  rotate_left
  · rw [ee] at h2
    rw [tl_n]
    exact mR21_b hW2 g (bad (qt_tr tψ1 (qt_P s2)) (h2 _ rfl))
  rw [e2] at h1 h2
  dsimp only at h1 h2
  rw [tl_n, bMo_readPart_21, nI_1]
  refine Mo_readTold (a := 2) (by omega) gφ2 (BOk_P hW hB (qt_tr tψ1 (qt_P s2))) (fun l q3 e3 ll φ3 s3 gφ3 => ?_) (fun e ee υ s3 g => ?_)
  rotate_left
  · rw [show pName T n w 12 nl (-1) q2 = .error e from ee] at h2
    rw [tl_s]
    exact mR34_b hW2 g (bad (qt_tr tψ1 (qt_P (qt_tr s2 s3))) (h2 _ rfl))
  rw [show pName T n w 12 nl (-1) q2 = .ok (l, q3) from e3] at h1 h2
  dsimp only at h1 h2
  rw [tl_s, bMo_readPart_34, mOut_f (by omega) (by omega), if_neg (by decide), nI_clamp (by omega)]
  have gψ3 := MOk_s (j := (W + 1)) (v := nI l) gφ3
  have tψ3 : qt (SPt W) τ (sI φ3 171 (W + 1) (nI l)) := qt_Ps (j := 1) (qt_tr tψ1 (qt_P (qt_tr s2 s3))) (by omega)
  have w0 : (sI φ3 171 (W + 1) (nI l)).1 171 W = nI s := (sI_n (Or.inr (by omega))).trans ((P_rd (W := W) (qt_tr s2 s3)).trans v0)
  have w1 : (sI φ3 171 (W + 1) (nI l)).1 171 (W + 1) = nI l := sI_e
  generalize sI φ3 171 (W + 1) (nI l) = ψ3 at *
  rw [Mo_isFrom gψ3, tl_s, bMo_readPart_40]
  refine Mo_mustW gψ3 (fun q4 e4 φ4 s4 gφ4 => ?_) (fun e ee υ s4 g => ?_)
  rotate_left
  · rw [ee] at h2
    rw [tl_n]
    exact mR43_b hW2 g (bad (qt_tr tψ3 (qt_P s4)) (h2 _ rfl))
  rw [e4] at h1 h2
  dsimp only at h1 h2
  rw [tl_n, bMo_readPart_43, nI_add, show (0 : Int32) = nI 0 from rfl]
  refine Mo_readTold (a := 0) (by omega) gφ4 (BOk_P hW hB (qt_tr tψ3 (qt_P s4))) (fun p q5 e5 lp φ5 s5 gφ5 => ?_) (fun e ee υ s5 g => ?_)
  rotate_left
  · rw [show pName T n w 0 np (-1) q4 = .error e from ee] at h2
    rw [tl_s]
    exact mR56_b hW2 g (bad (qt_tr tψ3 (qt_P (qt_tr s4 s5))) (h2 _ rfl))
  rw [show pName T n w 0 np (-1) q4 = .ok (p, q5) from e5] at h1 h2
  dsimp only at h1 h2
  replace lp : p < np := lp
  replace ll : l < nl := ll
  rw [tl_s, bMo_readPart_56, mOut_f (by omega) (by omega), if_neg (by decide), nI_clamp (by omega)]
  have gψ5 := MOk_s (j := (W + 2)) (v := nI p) gφ5
  have tψ5 : qt (SPt W) τ (sI φ5 171 (W + 2) (nI p)) := qt_Ps (j := 2) (qt_tr tψ3 (qt_P (qt_tr s4 s5))) (by omega)
  have x0 : (sI φ5 171 (W + 2) (nI p)).1 171 W = nI s := (sI_n (Or.inr (by omega))).trans ((P_rd (W := W) (qt_tr s4 s5)).trans w0)
  have x1 : (sI φ5 171 (W + 2) (nI p)).1 171 (W + 1) = nI l := (sI_n (Or.inr (by omega))).trans ((P_rd (W := W) (qt_tr s4 s5)).trans w1)
  have x2 : (sI φ5 171 (W + 2) (nI p)).1 171 (W + 2) = nI p := sI_e
  generalize sI φ5 171 (W + 2) (nI p) = ψ5 at *
  rw [Mo_isTo gψ5, tl_s, bMo_readPart_62]
  refine Mo_mustW gψ5 (fun q6 e6 φ6 s6 gφ6 => ?_) (fun e ee υ s6 g => ?_)
  rotate_left
  · rw [ee] at h2
    rw [tl_n]
    exact mR65_b hW2 g (bad (qt_tr tψ5 (qt_P s6)) (h2 _ rfl))
  rw [e6] at h1 h2
  dsimp only at h1 h2
  rw [tl_n, bMo_readPart_65, nI_add, show (0 : Int32) = nI 0 from rfl]
  have B6 := BOk_P hW hB (qt_tr tψ5 (qt_P s6))
  refine Mo_told (a := 0) (by omega) gφ6 B6 (fun r e7 lr => ?_) (fun e ee υ s7 g => ?_)
  rotate_left
  · rw [show pName T n w 0 np (nI p) q6 = .error e from pTold_e ee] at h2
    rw [tl_s]
    exact mR78_b hW2 g (bad (qt_tr tψ5 (qt_P (qt_tr s6 s7))) (h2 _ rfl))
  replace lr : r < np := lr
  rw [show pName T n w 0 np (nI p) q6 = _ from pTold_o n8 e7] at h1 h2
  rw [tl_s, bMo_readPart_78, mOut_f (by omega) (by omega), if_neg (by decide), nI_clamp (by omega), (MOk_s gφ6).1, ite_nn rfl]
  have gψ7 := MOk_s (j := W + 3) (v := nI r) gφ6
  have tψ7 : qt (SPt W) τ (sI φ6 171 (W + 3) (nI r)) := qt_Ps (qt_tr tψ5 (qt_P s6)) (by omega)
  have y0 : (sI φ6 171 (W + 3) (nI r)).1 171 W = nI s := (sI_n (Or.inr (by omega))).trans ((P_rd (W := W) s6).trans x0)
  have y1 : (sI φ6 171 (W + 3) (nI r)).1 171 (W + 1) = nI l := (sI_n (Or.inr (by omega))).trans ((P_rd (W := W) s6).trans x1)
  have y2 : (sI φ6 171 (W + 3) (nI r)).1 171 (W + 2) = nI p := (sI_n (Or.inr (by omega))).trans ((P_rd (W := W) s6).trans x2)
  have y3 : (sI φ6 171 (W + 3) (nI r)).1 171 (W + 3) = nI r := sI_e
  generalize sI φ6 171 (W + 3) (nI r) = ψ7 at *
  rw [bMo_readPart_86, nI_add, nI_add, mOut_f (n := W + 2) (by omega) (by omega), mOut_f (n := W + 3) (by omega) (by omega), if_neg (by decide), if_neg (by decide), nI_clamp (n := W + 2) (by omega), nI_clamp (n := W + 3) (by omega), y2, y3]
  by_cases pr : r = p
  · subst pr
    rw [if_pos rfl] at h2
    rw [ite_nn rfl, bMo_readPart_105, gψ7.2.1.2.1]
    refine Mo_fail gψ7 (by omega) (by omega) (fun υ s8 g => ?_)
    rw [tl_n]
    exact mR114_b hW2 g (bad (qt_tr tψ7 (qt_P s8)) (h2 _ rfl))
  rw [if_neg (fun g => pr ((nI_eq (by omega) (by omega)).mp g))] at h1 h2
  dsimp only at h1 h2
  rw [if_pos (fun g => pr ((nI_eq (by omega) (by omega)).mp g).symm), bMo_readPart_114]
  refine Mo_must_t gψ7 (fun φ8 s8 gφ8 => ?_)
  rw [tl_n, bMo_readPart_119, nI_add, mOut_f (by omega) (by omega), if_neg (by decide), nI_clamp (by omega), (MOk_s gφ8).1, if_neg (by decide)]
  have gψ8 := MOk_s (j := W + 4) (v := 0) gφ8
  have tψ8 : qt (SPt W) τ (sI φ8 171 (W + 4) 0) := qt_Ps (qt_tr tψ7 (qt_P s8)) (by omega)
  have u0 : (sI φ8 171 (W + 4) 0).1 171 W = nI s := (sI_n (Or.inr (by omega))).trans ((P_rd (W := W) s8).trans y0)
  have u1 : (sI φ8 171 (W + 4) 0).1 171 (W + 1) = nI l := (sI_n (Or.inr (by omega))).trans ((P_rd (W := W) s8).trans y1)
  have u2 : (sI φ8 171 (W + 4) 0).1 171 (W + 2) = nI p := (sI_n (Or.inr (by omega))).trans ((P_rd (W := W) s8).trans y2)
  have u3 : (sI φ8 171 (W + 4) 0).1 171 (W + 3) = nI r := (sI_n (Or.inr (by omega))).trans ((P_rd (W := W) s8).trans y3)
  have u4 : (sI φ8 171 (W + 4) 0).1 171 (W + 4) = nI 0 := sI_e
  generalize sI φ8 171 (W + 4) 0 = ψ8 at *
  rw [bMo_readPart_135, Mo_isFor gψ8, tl_s, bMo_readPart_139]
  by_cases y : isW T n (bh T n q6) 14 = true
  · rw [b2i_t y, if_pos i10, bMo_readPart_143]
    refine Mo_nx gψ8 (fun φ9 s9 gφ9 => ?_)
    rw [tl_n, bMo_readPart_147, nI_add, show (0 : Int32) = nI 0 from rfl]
    refine Mo_count gφ9 (by omega) (by omega) (fun f q9 e9 φ10 s10 gφ10 => ?_) (fun e ee υ s10 g => ?_)
    · have ep : pOpt T n 14 999 (bh T n q6) = .ok (f, q9) := by unfold pOpt; rw [if_pos y]; exact e9
      rw [ep] at h1
      dsimp only at h1
      have fB := pNum_le e9
      rw [tl_s, bMo_readPart_162, mOut_f (by omega) (by omega), if_neg (by decide), nI_clamp (by omega)]
      have z := qt_tr s9 s10
      exact h1 s l p r f q9 rfl ll lp lr (fun g => pr g.symm) sB.1 sB.2 fB.2 _ (qt_Ps (qt_tr tψ8 (qt_P z)) (by omega)) (MOk_s gφ10) ((sI_n (Or.inr (by omega))).trans ((P_rd (W := W) z).trans u0)) ((sI_n (Or.inr (by omega))).trans ((P_rd (W := W) z).trans u1)) ((sI_n (Or.inr (by omega))).trans ((P_rd (W := W) z).trans u2)) ((sI_n (Or.inr (by omega))).trans ((P_rd (W := W) z).trans u3)) sI_e
    · have ep : pOpt T n 14 999 (bh T n q6) = .error e := by unfold pOpt; rw [if_pos y]; exact ee
      rw [ep] at h2
      rw [tl_s, bMo_readPart_162, mOut_f (by omega) (by omega), if_neg (by decide), nI_clamp (by omega)]
      exact h2 _ rfl _ (qt_Ps (qt_tr tψ8 (qt_P (qt_tr s9 s10))) (by omega)) (MBad_s g)
  · have ep : pOpt T n 14 999 (bh T n q6) = .ok (0, bh T n q6) := by unfold pOpt; rw [if_neg y]
    rw [ep] at h1
    dsimp only at h1
    rw [b2i_f y, ite_nn rfl, bMo_readPart_142]
    exact h1 s l p r 0 _ rfl ll lp lr (fun g => pr g.symm) sB.1 sB.2 (by omega) _ tψ8 gψ8 u0 u1 u2 u3 u4
theorem MD_P {σ τ : mSt} {c : Nat → Int32} {w : Nat → Int64} {j : Nat} {s l p r f : Int32} (h : MD σ c w) (q : qt (SPt (2400 + j)) σ τ) (v0 : τ.1 171 (2400 + j) = s) (v1 : τ.1 171 (2400 + j + 1) = l) (v2 : τ.1 171 (2400 + j + 2) = p) (v3 : τ.1 171 (2400 + j + 3) = r) (v4 : τ.1 171 (2400 + j + 4) = f) : MD τ (upd (upd (upd (upd (upd c j s) (j + 1) l) (j + 2) p) (j + 3) r) (j + 4) f) w :=
  ⟨fun i hi => by
    by_cases i4 : i = j + 4
    · subst i4; rw [upd_e]; exact v4
    by_cases i3 : i = j + 3
    · subst i3; rw [upd_n i4, upd_e]; exact v3
    by_cases i2 : i = j + 2
    · subst i2; rw [upd_n i4, upd_n i3, upd_e]; exact v2
    by_cases i1 : i = j + 1
    · subst i1; rw [upd_n i4, upd_n i3, upd_n i2, upd_e]; exact v1
    by_cases i0 : i = j
    · subst i0; rw [upd_n i4, upd_n i3, upd_n i2, upd_n i1, upd_e]; exact v0
    rw [upd_n i4, upd_n i3, upd_n i2, upd_n i1, upd_n i0, (q 171 (2400 + i) (by simp only [SPt, S66b, Bool.or_eq_false_iff, Bool.and_eq_false_iff, beq_eq_false_iff_ne, decide_eq_false_iff_not, ne_eq]; omega)).1]
    exact h.1 i hi, fun i hi => ((q 173 _ (by simp only [SPt, S66b, Bool.or_eq_false_iff, Bool.and_eq_false_iff, beq_eq_false_iff_ne, decide_eq_false_iff_not, ne_eq]; omega)).2).trans (h.2 i hi)⟩
theorem qt_PM {j : Nat} {σ τ : mSt} (hj : j + 5 ≤ 600) (h : qt (SPt (2400 + j)) σ τ) : qt SMd σ τ := qt_mono h (fun o k g => by
  simp only [SPt, Bool.or_eq_true, Bool.and_eq_true, decide_eq_true_eq, beq_iff_eq] at g
  rcases g with g | g
  · exact S66_M g
  · simp only [SMd, Bool.or_eq_true, Bool.and_eq_true, decide_eq_true_eq, beq_iff_eq]; omega)
theorem Mo_readPromise {E : mEn} {d : Nat} {Q : mPost} {τ : mSt} {T : Nat → Int32} {n q : Nat} {c : Nat → Int32} {w : Nat → Int64} {u1 u2 : Value} (h : MOk τ T n q) (hw : isW T n q 10 = true) (hM : MD τ c w) (hC : CXc c) (h1 : ∀ c' w' q', pTP T n c w q = tSg c' w' (pSg T n q') → ∀ υ, qt SMd τ υ → MOk υ T n q' → MD υ c' w' → CXc c' → Q none υ) (h2 : ∀ e, pTP T n c w q = .error e → ∀ υ, qt SMd τ υ → MBad υ e → Q none υ) : WP E (d + 8) mMo_readPromise 0 [.ref 166, u1, u2] [] τ Q := by
  obtain ⟨np, no, nl, nk, hC⟩ := hC
  obtain ⟨e0, e1, e2, e3⟩ := CI_N hC
  have hB := MD_B hM hC
  obtain ⟨a1, a2, a3, a4, c0, c1, c2, c3, z1, z2, z3⟩ := hC
  unfold pTP at h1 h2
  rw [e0, e2, e3, pPart_t hw] at h1 h2
  rw [bMo_readPromise_0, mOut_f (by omega) (by omega), if_neg (by decide), show τ.1 171 2403 = nI nk from (hM.1 3 (by omega)).trans c3]
  by_cases f8 : nk < 16
  rotate_left
  · rw [if_neg f8] at h2
    rw [ite_nn (by rw [show nk = 16 by omega]), bMo_readPromise_15, h.2.1.2.1]
    refine Mo_fail h (by omega) (by omega) (fun υ q1 g => ?_)
    rw [tl_n, bMo_readPromise_25, if_neg (MBad_n g).2, bMo_readPromise_32]
    exact h2 _ rfl υ (qt_M q1) g
  rw [if_pos f8] at h1 h2
  rw [if_pos (fun g => by have := (nI_eq (by omega) (by omega)).mp g; omega), bMo_readPromise_25, h.1, if_pos (Int32.le_refl _), bMo_readPromise_33]
  refine Mo_nx h (fun φ s1 g1 => ?_)
  rw [tl_n, bMo_readPromise_37, pk_mul, nI_add, show 2482 + 6 * nk = 2400 + (82 + 6 * nk) by omega]
  refine Mo_readPart (W := 2400 + (82 + 6 * nk)) (b := 4) (by omega) (by omega) g1 (BOk_q hB s1 (fun _ _ => rfl) (fun _ _ => rfl)) (fun s l p r f q9 e9 ll lp lr ne i1 i2 i3 ψ s2 g2 v0 v1 v2 v3 v4 => ?_) (fun e ee υ s2 g => ?_)
  rotate_left
  · rw [ee] at h2
    rw [tl_n, bMo_readPromise_52, if_neg (MBad_n g).2, bMo_readPromise_59]
    exact h2 _ rfl υ (qt_tr (qt_M s1) (qt_PM (by omega) s2)) g
  rw [e9] at h1
  dsimp only at h1
  have t2 : qt SMd τ ψ := qt_tr (qt_M s1) (qt_PM (by omega) s2)
  have m2 := MD_P (MD_q hM s1) s2 v0 v1 v2 v3 v4
  rw [tl_n, bMo_readPromise_52, g2.1, if_pos (Int32.le_refl _), bMo_readPromise_60]
  rw [nI_add, mOut_f (n := 2400 + (82 + 6 * nk) + 5) (by omega) (by omega), nI_clamp (n := 2400 + (82 + 6 * nk) + 5) (by omega), if_neg (by decide), mOut_f (n := 2403) (by omega) (by omega), if_neg (by decide), if_neg (by decide), nI_add, mOut_f (n := 2400 + (82 + 6 * nk) + 3) (by omega) (by omega), if_neg (by decide), nI_clamp (n := 2400 + (82 + 6 * nk) + 3) (by omega), nI_add, mOut_f (n := 2400 + (82 + 6 * nk) + 4) (by omega) (by omega), nI_clamp (n := 2400 + (82 + 6 * nk) + 4) (by omega)]
  have m3 := MD_s (j := 82 + 6 * nk + 5) (v := 0) m2
  have g3 := MOk_s (j := 2400 + (82 + 6 * nk) + 5) (v := 0) g2
  have t3 := qt_Ms (j := 82 + 6 * nk + 5) (v := 0) t2 (by omega)
  rw [show 2400 + (82 + 6 * nk + 5) = 2400 + (82 + 6 * nk) + 5 by omega] at m3 t3
  generalize sI ψ 171 (2400 + (82 + 6 * nk) + 5) 0 = ψ3 at *
  have m4 := MD_s (j := 3) (v := ψ3.1 171 2403 + 1) m3
  have g4 := MOk_s (j := 2403) (v := ψ3.1 171 2403 + 1) g3
  have t4 := qt_Ms (j := 3) (v := ψ3.1 171 2403 + 1) t3 (by omega)
  have eb : ψ3.1 171 2403 + 1 = upd (upd (upd (upd (upd (upd c (82 + 6 * nk) (nI s)) (82 + 6 * nk + 1) (nI l)) (82 + 6 * nk + 2) (nI p)) (82 + 6 * nk + 3) (nI r)) (82 + 6 * nk + 4) (nI f)) (82 + 6 * nk + 5) 0 3 + 1 := by rw [← m3.1 3 (by omega)]
  rw [show 2400 + 3 = 2403 from rfl] at m4 t4
  generalize sI ψ3 171 2403 (ψ3.1 171 2403 + 1) = ψ4 at *
  rw [eb] at m4
  have k2 : ψ4.1 171 (2400 + (82 + 6 * nk) + 2) = nI p := by
    rw [show 2400 + (82 + 6 * nk) + 2 = 2400 + (82 + 6 * nk + 2) by omega, m4.1 _ (by omega)]; simp (disch := omega) only [upd_n, upd_e]
  have k3 : ψ4.1 171 (2400 + (82 + 6 * nk) + 3) = nI r := by
    rw [show 2400 + (82 + 6 * nk) + 3 = 2400 + (82 + 6 * nk + 3) by omega, m4.1 _ (by omega)]; simp (disch := omega) only [upd_n, upd_e]
  have k4 : ψ4.1 171 (2400 + (82 + 6 * nk) + 4) = nI f := by
    rw [show 2400 + (82 + 6 * nk) + 4 = 2400 + (82 + 6 * nk + 4) by omega, m4.1 _ (by omega)]; simp (disch := omega) only [upd_n, upd_e]
  rw [k3, k4, nI_add, mOut_f (by omega) (by omega), if_neg (by decide), if_neg (by decide), if_neg (by decide), nI_clamp (by omega), show 2406 + r = 2400 + (6 + r) by omega, m4.1 (6 + r) (by omega)]
  have m5 := MD_s (j := 6 + r) (v := mkB (mkA c (82 + 6 * nk) (nI s) (nI l) (nI p) (nI r) (nI f)) (6 + r) - nI f) m4
  have g5 := MOk_s (j := 2400 + (6 + r)) (v := mkB (mkA c (82 + 6 * nk) (nI s) (nI l) (nI p) (nI r) (nI f)) (6 + r) - nI f) g4
  have t5 := qt_Ms (j := 6 + r) (v := mkB (mkA c (82 + 6 * nk) (nI s) (nI l) (nI p) (nI r) (nI f)) (6 + r) - nI f) t4 (by omega)
  have r2 : (sI ψ4 171 (2400 + (6 + r)) (mkB (mkA c (82 + 6 * nk) (nI s) (nI l) (nI p) (nI r) (nI f)) (6 + r) - nI f)).1 171 (2400 + (82 + 6 * nk) + 2) = nI p := (sI_n (Or.inr (by omega))).trans k2
  have r4 : (sI ψ4 171 (2400 + (6 + r)) (mkB (mkA c (82 + 6 * nk) (nI s) (nI l) (nI p) (nI r) (nI f)) (6 + r) - nI f)).1 171 (2400 + (82 + 6 * nk) + 4) = nI f := (sI_n (Or.inr (by omega))).trans k4
  change WP E (d + 8) mMo_readPromise 109 _ _ (sI ψ4 171 (2400 + (6 + r)) (mkB (mkA c (82 + 6 * nk) (nI s) (nI l) (nI p) (nI r) (nI f)) (6 + r) - nI f)) Q
  generalize sI ψ4 171 (2400 + (6 + r)) (mkB (mkA c (82 + 6 * nk) (nI s) (nI l) (nI p) (nI r) (nI f)) (6 + r) - nI f) = ψ5 at *
  rw [bMo_readPromise_109, nI_add, nI_add, mOut_f (n := 2400 + (82 + 6 * nk) + 2) (by omega) (by omega), nI_clamp (n := 2400 + (82 + 6 * nk) + 2) (by omega), if_neg (by decide), r2, mOut_f (n := 2400 + (82 + 6 * nk) + 4) (by omega) (by omega), nI_clamp (n := 2400 + (82 + 6 * nk) + 4) (by omega), r4, nI_add, mOut_f (by omega) (by omega), if_neg (by decide), if_neg (by decide), if_neg (by decide), nI_clamp (by omega), show 2406 + p = 2400 + (6 + p) by omega, m5.1 (6 + p) (by omega), bMo_readPromise_137]
  refine h1 (mkF c nk (nI s) (nI l) p r (nI f)) w q9 rfl _ (qt_Ms (j := 6 + p) t5 (by omega)) (MOk_s g5) (MD_s (j := 6 + p) m5) ⟨np, no, nl, nk + 1, a1, a2, a3, by omega, ?_, ?_, ?_, ?_, fun x a b => ?_, fun k a b => ?_, ?_⟩
  all_goals simp (disch := omega) only [mkF, mkA, mkB, mkC, mkD, upd_n, upd_e]
  · exact c0
  · exact c1
  · exact c2
  · rw [c3, nI_1]
  · exact z1 x a b
  · exact z2 k a b
  · exact z3
