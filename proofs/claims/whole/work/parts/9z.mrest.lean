/-! days, the reference: the rest of a step, a step, its loops -/
section ME
variable {E : mEn} {d : Nat} {Q : mPost} {τ : mSt} {e : Nat × Nat} {b j : Nat} {s a2 : Int32}
theorem mE41_b (hb : b + 8 < 600) (h : MBad τ e) (hQ : ∀ υ, qt SMx τ υ → MBad υ e → Q none υ) : WP E (d + 8) mMo_readRest 41 [.ref 166, .int (nI (2400 + b)), .int a2] [.int s, .int (nI (2400 + (b + 1))), .ref 171] τ Q := by
  rw [bMo_readRest_41, mOut_f (by omega) (by omega), if_neg (by decide), nI_clamp (by omega), bMo_readRest_214]
  exact hQ _ (qt_Xs qt_rf (by omega)) (MBad_s h)
theorem mE63_b (hb : b + 8 < 600) (h : MBad τ e) (hQ : ∀ υ, qt SMx τ υ → MBad υ e → Q none υ) : WP E (d + 8) mMo_readRest 63 [.ref 166, .int (nI (2400 + b)), .int a2] [.int s, .int (nI (2400 + (b + 1))), .ref 171] τ Q := by
  rw [bMo_readRest_63, mOut_f (by omega) (by omega), if_neg (by decide), nI_clamp (by omega), bMo_readRest_214]
  exact hQ _ (qt_Xs qt_rf (by omega)) (MBad_s h)
theorem mE86_b (hb : b + 8 < 600) (h : MBad τ e) (hQ : ∀ υ, qt SMx τ υ → MBad υ e → Q none υ) : WP E (d + 8) mMo_readRest 86 [.ref 166, .int (nI (2400 + b)), .int a2] [.int s, .int (nI (2400 + (b + 1))), .ref 171] τ Q := by
  rw [bMo_readRest_86, mOut_f (by omega) (by omega), if_neg (by decide), nI_clamp (by omega), bMo_readRest_214]
  exact hQ _ (qt_Xs qt_rf (by omega)) (MBad_s h)
theorem mE213_b (hb : b + 8 < 600) (h : MBad τ e) (hQ : ∀ υ, qt SMx τ υ → MBad υ e → Q none υ) : WP E (d + 8) mMo_readRest 213 [.ref 166, .int (nI (2400 + b)), .int a2] [.int s, .int (nI (2400 + (b + 1))), .ref 171] τ Q := by
  rw [bMo_readRest_213, mOut_f (by omega) (by omega), if_neg (by decide), nI_clamp (by omega), bMo_readRest_214]
  exact hQ _ (qt_Xs qt_rf (by omega)) (MBad_s h)
theorem mE123_b (hb : b + 8 < 600) (h : MBad τ e) (hQ : ∀ υ, qt SMx τ υ → MBad υ e → Q none υ) : WP E (d + 8) mMo_readRest 123 [.ref 166, .int (nI (2400 + b)), .int a2] [.int s, .int (nI (2400 + (b + 2))), .ref 171] τ Q := by
  rw [bMo_readRest_123, mOut_f (by omega) (by omega), if_neg (by decide), nI_clamp (by omega), bMo_readRest_214]
  exact hQ _ (qt_Xs qt_rf (by omega)) (MBad_s h)
theorem mE108_b (hb : b + 8 < 600) (h : MBad τ e) (hQ : ∀ υ, qt SMx τ υ → MBad υ e → Q none υ) : WP E (d + 8) mMo_readRest 108 [.ref 166, .int (nI (2400 + b)), .int a2] [.int s, .int (nI (2400 + (b + 1))), .ref 171] τ Q := by
  rw [bMo_readRest_108, mOut_f (by omega) (by omega), if_neg (by decide), nI_clamp (by omega), Mo_count_b (MBad_s h), tl_s, nI_add, show 2400 + b + 2 = 2400 + (b + 2) by omega]
  exact mE123_b hb (MBad_s h) (fun υ q g => hQ υ (qt_tr (qt_Xs qt_rf (by omega)) q) g)
theorem mE175_b (hb : b + 8 < 600) (h : MBad τ e) (hQ : ∀ υ, qt SMx τ υ → MBad υ e → Q none υ) : WP E (d + 8) mMo_readRest 175 [.ref 166, .int (nI (2400 + b)), .int a2] [.int s, .int (nI (2400 + (b + 3))), .ref 171] τ Q := by
  rw [bMo_readRest_175, mOut_f (by omega) (by omega), if_neg (by decide), nI_clamp (by omega), bMo_readRest_214]
  exact hQ _ (qt_Xs qt_rf (by omega)) (MBad_s h)
theorem mE159_b (hb : b + 8 < 600) (h : MBad τ e) (hQ : ∀ υ, qt SMx τ υ → MBad υ e → Q none υ) : WP E (d + 8) mMo_readRest 159 [.ref 166, .int (nI (2400 + b)), .int a2] [.int s, .int (nI (2400 + (b + 2))), .ref 171] τ Q := by
  rw [bMo_readRest_159, mOut_f (by omega) (by omega), if_neg (by decide), nI_clamp (by omega), Mo_count_b (MBad_s h), tl_s, nI_add, show 2400 + b + 3 = 2400 + (b + 3) by omega]
  exact mE175_b hb (MBad_s h) (fun υ q g => hQ υ (qt_tr (qt_Xs qt_rf (by omega)) q) g)
theorem mE145_b (hb : b + 8 < 600) (h : MBad τ e) (hQ : ∀ υ, qt SMx τ υ → MBad υ e → Q none υ) : WP E (d + 8) mMo_readRest 145 [.ref 166, .int (nI (2400 + b)), .int a2] [.int s, .int (nI (2400 + (b + 1))), .ref 171] τ Q := by
  rw [bMo_readRest_145, mOut_f (by omega) (by omega), if_neg (by decide), nI_clamp (by omega), Mo_readTold_b (MBad_s h), tl_s, nI_add, show 2400 + b + 2 = 2400 + (b + 2) by omega]
  exact mE159_b hb (MBad_s h) (fun υ q g => hQ υ (qt_tr (qt_Xs qt_rf (by omega)) q) g)
end ME
theorem Mo_readRest {E : mEn} {d : Nat} {Q : mPost} {τ : mSt} {T : Nat → Int32} {n q np no nl b k : Nat} {w : Nat → Int64} {C : Nat → Int32} {u : Value} (hk : k ∈ stL) (hb0 : 3 ≤ b) (hb : b + 8 < 600) (hC : C b = nI (kR k)) (h : MOk τ T n q) (hB : BOk τ 0 w np no nl) (hM : MC τ C)
    (h1 : ∀ g C' q', pRst T n w np no nl k b C q = .ok (g, C', q') → ∀ υ, qt SMx τ υ → MOk υ T n q' → MC υ C' → Q none υ)
    (h2 : ∀ e, pRst T n w np no nl k b C q = .error e → ∀ υ, qt SMx τ υ → MBad υ e → Q none υ) : WP E (d + 8) mMo_readRest 0 [.ref 166, .int (nI (2400 + b)), u] [] τ Q := by
  rw [bMo_readRest_0, mOut_f (by omega) (by omega), if_neg (by decide), nI_clamp (by omega), hM b, hC]
  simp only [stL, List.mem_cons, List.not_mem_nil, or_false] at hk
  rcases hk with rfl | rfl | rfl | rfl | rfl | rfl | rfl | rfl | rfl
  · rw [show pRst T n w np no nl 10 b C q = (match pPt T n w np nl q with
      | .error e => .error e
      | .ok ((s, l, p, r, f), q1) => .ok (g5 (nI s) (nI l) (nI p) (nI r) (nI f), upd (upd (upd (upd (upd C (b + 1) (nI s)) (b + 2) (nI l)) (b + 3) (nI p)) (b + 4) (nI r)) (b + 5) (nI f), q1)) from rfl] at h1 h2
    rw [show kR 10 = 0 from rfl, ite_nn nI_lit0, bMo_readRest_11, nI_1, show 2400 + b + 1 = 2400 + (b + 1) by omega]
    refine Mo_readPart (b := 0) (W := 2400 + (b + 1)) (by omega) (by omega) h hB (fun s l p r f q1 e1 _ _ _ _ _ _ _ υ t1 g1 a0 a1 a2 a3 a4 => ?_) (fun e ee υ t1 g1 => ?_)
    · rw [e1] at h1
      dsimp only at h1
      rw [tl_n, bMo_readRest_19, bMo_readRest_214]
      exact h1 _ _ _ rfl υ (qt_PX (by omega) t1) g1 (MC_P hM t1 a0 a1 a2 a3 a4)
    · rw [ee] at h2
      rw [tl_n, bMo_readRest_19, bMo_readRest_214]
      exact h2 _ rfl υ (qt_PX (by omega) t1) g1
  · rw [show pRst T n w np no nl 19 b C q = pN1 b C (pNum T n 0 39 q) from rfl] at h1 h2
    rw [show kR 19 = 1 from rfl, if_pos (by decide), bMo_readRest_22, ite_nn (by rfl), bMo_readRest_27, nI_1, show 2400 + b + 1 = 2400 + (b + 1) by omega]
    refine Mo_count (lo := 0) h (by omega) (by omega) (fun a q1x e1x φ1x s1x g1x => ?_) (fun e ee υ s1x g1x => ?_)
    rotate_left
    · rw [show pNum T n 0 39 q = .error e from ee] at h2
      rw [tl_s]
      exact mE41_b hb g1x (fun ω r1 r2 => h2 _ rfl ω (qt_tr (qt_tr (qt_rf : qt SMx τ τ) (qt_X s1x)) r1) r2)
    rw [show pNum T n 0 39 q = .ok (a, q1x) from e1x] at h1 h2
    dsimp only [pN1] at h1 h2
    rw [tl_s, bMo_readRest_41, mOut_f (by omega) (by omega), if_neg (by decide), nI_clamp (by omega)]
    have m1x := MC_s (j := b + 1) (v := nI a) (MC_q hM s1x)
    have t1x := qt_Xs (j := b + 1) (v := nI a) (qt_tr (qt_rf : qt SMx τ τ) (qt_X s1x)) (by omega)
    have g1xy := MOk_s (j := 2400 + (b + 1)) (v := nI a) g1x
    rw [bMo_readRest_214]
    exact h1 _ _ _ rfl _ t1x g1xy m1x
  · rw [show pRst T n w np no nl 15 b C q = pN1 b C (pName T n w 12 nl (-1) q) from rfl] at h1 h2
    rw [show kR 15 = 2 from rfl, if_pos (by decide), bMo_readRest_22, if_pos (by decide), bMo_readRest_45, ite_nn (by rfl), bMo_readRest_50, nI_1, show 2400 + b + 1 = 2400 + (b + 1) by omega]
    refine Mo_readTold (a := 2) (b := 0) (by omega) h (BOk_X hB (qt_rf : qt SMx τ τ)) (fun a q2x e2x l2x φ2x s2x g2x => ?_) (fun e ee υ s2x g2x => ?_)
    rotate_left
    · rw [show pName T n w 12 nl (-1) q = .error e from ee] at h2
      rw [tl_s]
      exact mE63_b hb g2x (fun ω r1 r2 => h2 _ rfl ω (qt_tr (qt_tr (qt_rf : qt SMx τ τ) (qt_X s2x)) r1) r2)
    rw [show pName T n w 12 nl (-1) q = .ok (a, q2x) from e2x] at h1 h2
    dsimp only [pN1] at h1 h2
    rw [tl_s, bMo_readRest_63, mOut_f (by omega) (by omega), if_neg (by decide), nI_clamp (by omega)]
    have m2x := MC_s (j := b + 1) (v := nI a) (MC_q hM s2x)
    have t2x := qt_Xs (j := b + 1) (v := nI a) (qt_tr (qt_rf : qt SMx τ τ) (qt_X s2x)) (by omega)
    have g2xy := MOk_s (j := 2400 + (b + 1)) (v := nI a) g2x
    rw [bMo_readRest_214]
    exact h1 _ _ _ rfl _ t2x g2xy m2x
  · rw [show pRst T n w np no nl 16 b C q = pN1 b C (pNum T n 1 9 q) from rfl] at h1 h2
    rw [show kR 16 = 3 from rfl, if_pos (by decide), bMo_readRest_22, if_pos (by decide), bMo_readRest_45, if_pos (by decide), bMo_readRest_67, ite_nn (by rfl), bMo_readRest_72, nI_1, show 2400 + b + 1 = 2400 + (b + 1) by omega]
    refine Mo_count (lo := 1) h (by omega) (by omega) (fun a q3x e3x φ3x s3x g3x => ?_) (fun e ee υ s3x g3x => ?_)
    rotate_left
    · rw [show pNum T n 1 9 q = .error e from ee] at h2
      rw [tl_s]
      exact mE86_b hb g3x (fun ω r1 r2 => h2 _ rfl ω (qt_tr (qt_tr (qt_rf : qt SMx τ τ) (qt_X s3x)) r1) r2)
    rw [show pNum T n 1 9 q = .ok (a, q3x) from e3x] at h1 h2
    dsimp only [pN1] at h1 h2
    rw [tl_s, bMo_readRest_86, mOut_f (by omega) (by omega), if_neg (by decide), nI_clamp (by omega)]
    have m3x := MC_s (j := b + 1) (v := nI a) (MC_q hM s3x)
    have t3x := qt_Xs (j := b + 1) (v := nI a) (qt_tr (qt_rf : qt SMx τ τ) (qt_X s3x)) (by omega)
    have g3xy := MOk_s (j := 2400 + (b + 1)) (v := nI a) g3x
    rw [bMo_readRest_214]
    exact h1 _ _ _ rfl _ t3x g3xy m3x
  · rw [show pRst T n w np no nl 17 b C q = (match pName T n w 0 np (-1) q with
    | .error e => .error e
    | .ok (p, q1) => match pNum T n 1 99 q1 with
      | .error e => .error e
      | .ok (a, q2) => .ok (g5 (nI p) (nI a) 0 0 0, upd (upd C (b + 1) (nI p)) (b + 2) (nI a), q2)) from rfl] at h1 h2
    rw [show kR 17 = 4 from rfl, if_pos (by decide), bMo_readRest_22, if_pos (by decide), bMo_readRest_45, if_pos (by decide), bMo_readRest_67, if_pos (by decide), bMo_readRest_90, ite_nn (by rfl), bMo_readRest_95, nI_1, show 2400 + b + 1 = 2400 + (b + 1) by omega]
    refine Mo_readTold (a := 0) (b := 0) (by omega) h (BOk_X hB (qt_rf : qt SMx τ τ)) (fun p q4x e4x l4x φ4x s4x g4x => ?_) (fun e ee υ s4x g4x => ?_)
    rotate_left
    · rw [show pName T n w 0 np (-1) q = .error e from ee] at h2
      rw [tl_s]
      exact mE108_b hb g4x (fun ω r1 r2 => h2 _ rfl ω (qt_tr (qt_tr (qt_rf : qt SMx τ τ) (qt_X s4x)) r1) r2)
    rw [show pName T n w 0 np (-1) q = .ok (p, q4x) from e4x] at h1 h2
    dsimp only [pN1] at h1 h2
    rw [tl_s, bMo_readRest_108, mOut_f (by omega) (by omega), if_neg (by decide), nI_clamp (by omega), nI_add, show 2400 + b + 2 = 2400 + (b + 2) by omega]
    have m4x := MC_s (j := b + 1) (v := nI p) (MC_q hM s4x)
    have t4x := qt_Xs (j := b + 1) (v := nI p) (qt_tr (qt_rf : qt SMx τ τ) (qt_X s4x)) (by omega)
    have g4xy := MOk_s (j := 2400 + (b + 1)) (v := nI p) g4x
    refine Mo_count (lo := 1) g4xy (by omega) (by omega) (fun a q5x e5x φ5x s5x g5x => ?_) (fun e ee υ s5x g5x => ?_)
    rotate_left
    · rw [show pNum T n 1 99 q4x = .error e from ee] at h2
      rw [tl_s]
      exact mE123_b hb g5x (fun ω r1 r2 => h2 _ rfl ω (qt_tr (qt_tr t4x (qt_X s5x)) r1) r2)
    rw [show pNum T n 1 99 q4x = .ok (a, q5x) from e5x] at h1 h2
    dsimp only [pN1] at h1 h2
    rw [tl_s, bMo_readRest_123, mOut_f (by omega) (by omega), if_neg (by decide), nI_clamp (by omega)]
    have m5x := MC_s (j := b + 2) (v := nI a) (MC_q m4x s5x)
    have t5x := qt_Xs (j := b + 2) (v := nI a) (qt_tr t4x (qt_X s5x)) (by omega)
    have g5xy := MOk_s (j := 2400 + (b + 2)) (v := nI a) g5x
    rw [bMo_readRest_214]
    exact h1 _ _ _ rfl _ t5x g5xy m5x
  · rw [show pRst T n w np no nl 18 b C q = (match pName T n w 0 np (-1) q with
    | .error e => .error e
    | .ok (p, q1) => match pName T n w 0 np (-1) q1 with
      | .error e => .error e
      | .ok (r, q2) => match pNum T n 1 999 q2 with
        | .error e => .error e
        | .ok (a, q3) => .ok (g5 (nI p) (nI r) (nI a) 0 0, upd (upd (upd C (b + 1) (nI p)) (b + 2) (nI r)) (b + 3) (nI a), q3)) from rfl] at h1 h2
    rw [show kR 18 = 5 from rfl, if_pos (by decide), bMo_readRest_22, if_pos (by decide), bMo_readRest_45, if_pos (by decide), bMo_readRest_67, if_pos (by decide), bMo_readRest_90, if_pos (by decide), bMo_readRest_127, ite_nn (by rfl), bMo_readRest_132, nI_1, show 2400 + b + 1 = 2400 + (b + 1) by omega]
    refine Mo_readTold (a := 0) (b := 0) (by omega) h (BOk_X hB (qt_rf : qt SMx τ τ)) (fun p q6x e6x l6x φ6x s6x g6x => ?_) (fun e ee υ s6x g6x => ?_)
    rotate_left
    · rw [show pName T n w 0 np (-1) q = .error e from ee] at h2
      rw [tl_s]
      exact mE145_b hb g6x (fun ω r1 r2 => h2 _ rfl ω (qt_tr (qt_tr (qt_rf : qt SMx τ τ) (qt_X s6x)) r1) r2)
    rw [show pName T n w 0 np (-1) q = .ok (p, q6x) from e6x] at h1 h2
    dsimp only [pN1] at h1 h2
    rw [tl_s, bMo_readRest_145, mOut_f (by omega) (by omega), if_neg (by decide), nI_clamp (by omega), nI_add, show 2400 + b + 2 = 2400 + (b + 2) by omega]
    have m6x := MC_s (j := b + 1) (v := nI p) (MC_q hM s6x)
    have t6x := qt_Xs (j := b + 1) (v := nI p) (qt_tr (qt_rf : qt SMx τ τ) (qt_X s6x)) (by omega)
    have g6xy := MOk_s (j := 2400 + (b + 1)) (v := nI p) g6x
    refine Mo_readTold (a := 0) (b := 0) (by omega) g6xy (BOk_X hB t6x) (fun r q7x e7x l7x φ7x s7x g7x => ?_) (fun e ee υ s7x g7x => ?_)
    rotate_left
    · rw [show pName T n w 0 np (-1) q6x = .error e from ee] at h2
      rw [tl_s]
      exact mE159_b hb g7x (fun ω r1 r2 => h2 _ rfl ω (qt_tr (qt_tr t6x (qt_X s7x)) r1) r2)
    rw [show pName T n w 0 np (-1) q6x = .ok (r, q7x) from e7x] at h1 h2
    dsimp only [pN1] at h1 h2
    rw [tl_s, bMo_readRest_159, mOut_f (by omega) (by omega), if_neg (by decide), nI_clamp (by omega), nI_add, show 2400 + b + 3 = 2400 + (b + 3) by omega]
    have m7x := MC_s (j := b + 2) (v := nI r) (MC_q m6x s7x)
    have t7x := qt_Xs (j := b + 2) (v := nI r) (qt_tr t6x (qt_X s7x)) (by omega)
    have g7xy := MOk_s (j := 2400 + (b + 2)) (v := nI r) g7x
    refine Mo_count (lo := 1) g7xy (by omega) (by omega) (fun a q8x e8x φ8x s8x g8x => ?_) (fun e ee υ s8x g8x => ?_)
    rotate_left
    · rw [show pNum T n 1 999 q7x = .error e from ee] at h2
      rw [tl_s]
      exact mE175_b hb g8x (fun ω r1 r2 => h2 _ rfl ω (qt_tr (qt_tr t7x (qt_X s8x)) r1) r2)
    rw [show pNum T n 1 999 q7x = .ok (a, q8x) from e8x] at h1 h2
    dsimp only [pN1] at h1 h2
    rw [tl_s, bMo_readRest_175, mOut_f (by omega) (by omega), if_neg (by decide), nI_clamp (by omega)]
    have m8x := MC_s (j := b + 3) (v := nI a) (MC_q m7x s8x)
    have t8x := qt_Xs (j := b + 3) (v := nI a) (qt_tr t7x (qt_X s8x)) (by omega)
    have g8xy := MOk_s (j := 2400 + (b + 3)) (v := nI a) g8x
    rw [bMo_readRest_214]
    exact h1 _ _ _ rfl _ t8x g8xy m8x
  · rw [show pRst T n w np no nl 20 b C q = pTst T n w np no nl b C q from rfl] at h1 h2
    rw [show kR 20 = 6 from rfl, if_pos (by decide), bMo_readRest_22, if_pos (by decide), bMo_readRest_45, if_pos (by decide), bMo_readRest_67, if_pos (by decide), bMo_readRest_90, if_pos (by decide), bMo_readRest_127, if_pos (by decide), bMo_readRest_179, ite_nn (by rfl), bMo_readRest_185]
    refine Mo_readTest (b := b) (C := C) hb h hB hM (fun g C' q' e1 υ t1 g1 f1 => ?_) (fun e ee υ t1 g1 => ?_)
    · rw [tl_n, bMo_readRest_190, bMo_readRest_214]
      exact h1 g C' q' e1 υ t1 g1 f1
    · rw [tl_n, bMo_readRest_190, bMo_readRest_214]
      exact h2 e ee υ t1 g1
  · rw [show pRst T n w np no nl 25 b C q = pN1 b C (pNum T n 1 99 q) from rfl] at h1 h2
    rw [show kR 25 = 7 from rfl, if_pos (by decide), bMo_readRest_22, if_pos (by decide), bMo_readRest_45, if_pos (by decide), bMo_readRest_67, if_pos (by decide), bMo_readRest_90, if_pos (by decide), bMo_readRest_127, if_pos (by decide), bMo_readRest_179, if_pos (by decide), bMo_readRest_193, ite_nn (by rfl), bMo_readRest_199, nI_1, show 2400 + b + 1 = 2400 + (b + 1) by omega]
    refine Mo_count (lo := 1) h (by omega) (by omega) (fun a q9x e9x φ9x s9x g9x => ?_) (fun e ee υ s9x g9x => ?_)
    rotate_left
    · rw [show pNum T n 1 99 q = .error e from ee] at h2
      rw [tl_s]
      exact mE213_b hb g9x (fun ω r1 r2 => h2 _ rfl ω (qt_tr (qt_tr (qt_rf : qt SMx τ τ) (qt_X s9x)) r1) r2)
    rw [show pNum T n 1 99 q = .ok (a, q9x) from e9x] at h1 h2
    dsimp only [pN1] at h1 h2
    rw [tl_s, bMo_readRest_213, mOut_f (by omega) (by omega), if_neg (by decide), nI_clamp (by omega)]
    have m9x := MC_s (j := b + 1) (v := nI a) (MC_q hM s9x)
    have t9x := qt_Xs (j := b + 1) (v := nI a) (qt_tr (qt_rf : qt SMx τ τ) (qt_X s9x)) (by omega)
    have g9xy := MOk_s (j := 2400 + (b + 1)) (v := nI a) g9x
    rw [bMo_readRest_214]
    exact h1 _ _ _ rfl _ t9x g9xy m9x
  · rw [show pRst T n w np no nl 27 b C q = .ok (g5 0 0 0 0 0, C, q) from rfl] at h1 h2
    rw [show kR 27 = 8 from rfl, if_pos (by decide), bMo_readRest_22, if_pos (by decide), bMo_readRest_45, if_pos (by decide), bMo_readRest_67, if_pos (by decide), bMo_readRest_90, if_pos (by decide), bMo_readRest_127, if_pos (by decide), bMo_readRest_179, if_pos (by decide), bMo_readRest_193, if_pos (by decide), bMo_readRest_214]
    exact h1 _ _ _ rfl _ qt_rf h hM
