theorem fnd_u {w : Nat → Int64} {lo z : Nat} {x y : Int64} : ∀ f i, (z < lo + i ∨ lo + i + f ≤ z) → fnd (updL w z y) lo x f i = fnd w lo x f i
  | 0, i, _ => rfl
  | f + 1, i, h => by
    rw [fnd, fnd, updL_n (by omega), fnd_u f (i + 1) (by omega)]
theorem pName_u {T : Nat → Int32} {n lo m z q : Nat} {w : Nat → Int64} {x : Int64} {gv : Int32} (h : z < lo ∨ lo + m ≤ z) : pName T n (updL w z x) lo m gv q = pName T n w lo m gv q := by
  unfold pName
  rw [fnd_u m 0 (by omega)]
theorem Mo_mustW {E : mEn} {d : Nat} {Q : mPost} {τ : mSt} {T : Nat → Int32} {n q k : Nat} (h : MOk τ T n q) (h1 : ∀ q', pWd T n k q = .ok q' → ∀ υ, qt S66b τ υ → MOk υ T n q' → Q none υ) (h2 : ∀ e, pWd T n k q = .error e → ∀ υ, qt S66b τ υ → MBad υ e → Q none υ) : WP E (d + 2) mMo_must 0 [.ref 166, .int (b2i (isW T n q k = true))] [] τ Q := by
  unfold pWd at h1 h2
  by_cases z : isW T n q k = true
  · rw [if_pos z] at h1
    rw [b2i_t z]
    exact Mo_must_t h (fun υ q1 g => h1 _ rfl υ q1 g)
  · rw [if_neg z] at h2
    rw [b2i_f z]
    exact Mo_must_f h (fun υ q1 g => h2 _ rfl υ q1 g)
section ML
variable {E : mEn} {d : Nat} {Q : mPost} {τ : mSt} {e : Nat × Nat} {nl : Nat} {s : Int32}
theorem mL185_b (hl : nl < 8) (h : MBad τ e) (hQ : ∀ υ, qt SMd τ υ → MBad υ e → Q none υ) : WP E d mMo_readLoaf 185 [.ref 166, .int (nI nl)] [.int s, .int (nI (2400 + (66 + nl))), .ref 171] τ Q := by
  rw [bMo_readLoaf_185, nI_add, show 2474 + nl = 2400 + (74 + nl) by omega, mOut_f (n := 2400 + (66 + nl)) (by omega) (by omega), mOut_f (n := 2400 + (74 + nl)) (by omega) (by omega), if_neg (by decide), if_neg (by decide), nI_clamp (n := 2400 + (66 + nl)) (by omega), nI_clamp (n := 2400 + (74 + nl)) (by omega), if_pos (MBad_n (MBad_s (MBad_s h))).1, bMo_readLoaf_216]
  exact hQ _ (qt_Ms (qt_Ms qt_rf (by omega)) (by omega)) (MBad_s (MBad_s h))
theorem mL168_b (hl : nl < 8) (h : MBad τ e) (hQ : ∀ υ, qt SMd τ υ → MBad υ e → Q none υ) : WP E (d + 7) mMo_readLoaf 168 [.ref 166, .int (nI nl)] [] τ Q := by
  rw [bMo_readLoaf_168, Mo_count_b h, tl_s, nI_add, show 2466 + nl = 2400 + (66 + nl) by omega]
  exact mL185_b hl h hQ
theorem mL159_b (hl : nl < 8) (h : MBad τ e) (hQ : ∀ υ, qt SMd τ υ → MBad υ e → Q none υ) : WP E (d + 7) mMo_readLoaf 159 [.ref 166, .int (nI nl)] [.int s, .int (nI (2400 + (58 + nl))), .ref 171] τ Q := by
  rw [bMo_readLoaf_159, mOut_f (by omega) (by omega), if_neg (by decide), nI_clamp (by omega)]
  refine Mo_isFlour_a (fun b _ => ?_)
  rw [tl_s, bMo_readLoaf_165, Mo_must_b (MBad_s h), tl_n]
  exact mL168_b hl (MBad_s h) (fun υ q g => hQ υ (qt_tr (qt_Ms qt_rf (by omega)) q) g)
theorem mL143_b (hl : nl < 8) (h : MBad τ e) (hQ : ∀ υ, qt SMd τ υ → MBad υ e → Q none υ) : WP E (d + 7) mMo_readLoaf 143 [.ref 166, .int (nI nl)] [] τ Q := by
  rw [bMo_readLoaf_143, Mo_count_b h, tl_s, nI_add, show 2458 + nl = 2400 + (58 + nl) by omega]
  exact mL159_b hl h hQ
theorem mL134_b (hl : nl < 8) (h : MBad τ e) (hQ : ∀ υ, qt SMd τ υ → MBad υ e → Q none υ) : WP E (d + 7) mMo_readLoaf 134 [.ref 166, .int (nI nl)] [.int s, .int (nI (2400 + (50 + nl))), .ref 171] τ Q := by
  rw [bMo_readLoaf_134, mOut_f (by omega) (by omega), if_neg (by decide), nI_clamp (by omega)]
  refine Mo_isSlices_a (fun b _ => ?_)
  rw [tl_s, bMo_readLoaf_140, Mo_must_b (MBad_s h), tl_n]
  exact mL143_b hl (MBad_s h) (fun υ q g => hQ υ (qt_tr (qt_Ms qt_rf (by omega)) q) g)
theorem mL118_b (hl : nl < 8) (h : MBad τ e) (hQ : ∀ υ, qt SMd τ υ → MBad υ e → Q none υ) : WP E (d + 7) mMo_readLoaf 118 [.ref 166, .int (nI nl)] [] τ Q := by
  rw [bMo_readLoaf_118, Mo_count_b h, tl_s, nI_add, show 2450 + nl = 2400 + (50 + nl) by omega]
  exact mL134_b hl h hQ
theorem mL110_b (hl : nl < 8) (h : MBad τ e) (hQ : ∀ υ, qt SMd τ υ → MBad υ e → Q none υ) : WP E (d + 7) mMo_readLoaf 110 [.ref 166, .int (nI nl)] [] τ Q := by
  rw [bMo_readLoaf_110]
  refine Mo_isOn_a (fun b _ => ?_)
  rw [tl_s, bMo_readLoaf_115, Mo_must_b h, tl_n]
  exact mL118_b hl h hQ
theorem mL109_b (hl : nl < 8) (h : MBad τ e) (hQ : ∀ υ, qt SMd τ υ → MBad υ e → Q none υ) : WP E (d + 7) mMo_readLoaf 109 [.ref 166, .int (nI nl)] [.int s, .int (nI (2400 + (42 + nl))), .ref 171] τ Q := by
  rw [bMo_readLoaf_109, mOut_f (by omega) (by omega), if_neg (by decide), nI_clamp (by omega)]
  exact mL110_b hl (MBad_s h) (fun υ q g => hQ υ (qt_tr (qt_Ms qt_rf (by omega)) q) g)
theorem mL64_b (hl : nl < 8) (h : MBad τ e) (hQ : ∀ υ, qt SMd τ υ → MBad υ e → Q none υ) : WP E (d + 7) mMo_readLoaf 64 [.ref 166, .int (nI nl)] [.int s, .int (nI (2400 + (34 + nl))), .ref 171] τ Q := by
  rw [bMo_readLoaf_64, nI_add, show 2442 + nl = 2400 + (42 + nl) by omega, mOut_f (n := 2400 + (34 + nl)) (by omega) (by omega), mOut_f (n := 2400 + (42 + nl)) (by omega) (by omega), if_neg (by decide), if_neg (by decide), nI_clamp (n := 2400 + (34 + nl)) (by omega), nI_clamp (n := 2400 + (42 + nl)) (by omega), if_pos (MBad_n (MBad_s (MBad_s h))).1]
  exact mL110_b hl (MBad_s (MBad_s h)) (fun υ q g => hQ υ (qt_tr (qt_Ms (qt_Ms qt_rf (by omega)) (by omega)) q) g)
theorem mL49_b (hl : nl < 8) (h : MBad τ e) (hQ : ∀ υ, qt SMd τ υ → MBad υ e → Q none υ) : WP E (d + 7) mMo_readLoaf 49 [.ref 166, .int (nI nl)] [] τ Q := by
  rw [bMo_readLoaf_49, Mo_readTold_b h, tl_s, nI_add, show 2434 + nl = 2400 + (34 + nl) by omega]
  exact mL64_b hl h hQ
theorem mL41_b (hl : nl < 8) (h : MBad τ e) (hQ : ∀ υ, qt SMd τ υ → MBad υ e → Q none υ) : WP E (d + 7) mMo_readLoaf 41 [.ref 166, .int (nI nl)] [] τ Q := by
  rw [bMo_readLoaf_41]
  refine Mo_isBy_a (fun b _ => ?_)
  rw [tl_s, bMo_readLoaf_46, Mo_must_b h, tl_n]
  exact mL49_b hl h hQ
end ML
theorem Mo_readLoaf {E : mEn} {d : Nat} {Q : mPost} {τ : mSt} {T : Nat → Int32} {n q : Nat} {c : Nat → Int32} {w : Nat → Int64} {u1 : Value} (h : MOk τ T n q) (hM : MD τ c w) (hC : CXc c) (h1 : ∀ c' w' q', pLoaf T n c w q = tSg c' w' (pSg T n q') → ∀ υ, qt SMd τ υ → MOk υ T n q' → MD υ c' w' → CXc c' → Q none υ) (h2 : ∀ e, pLoaf T n c w q = .error e → ∀ υ, qt SMd τ υ → MBad υ e → Q none υ) : WP E (d + 7) mMo_readLoaf 0 [.ref 166, u1] [] τ Q := by
  obtain ⟨np, no, nl, nk, hC⟩ := hC
  obtain ⟨e0, e1, e2, e3⟩ := CI_N hC
  have hB := MD_B hM hC
  obtain ⟨a1, a2, a3, a4, c0, c1, c2, c3, z1, z2, z3⟩ := hC
  have bad : ∀ {φ : mSt} {e : Nat × Nat}, qt SMd τ φ → (∀ υ, qt SMd τ υ → MBad υ e → Q none υ) → ∀ υ, qt SMd φ υ → MBad υ e → Q none υ := fun q1 k υ q2 g => k υ (qt_tr q1 q2) g
  unfold pLoaf at h1 h2
  rw [e0, e1, e2] at h1 h2
  rw [bMo_readLoaf_0, mOut_f (by omega) (by omega), if_neg (by decide), show τ.1 171 2402 = nI nl from (hM.1 2 (by omega)).trans c2]
  by_cases f8 : nl = 8
  · rw [if_pos f8] at h2
    rw [ite_nn (by rw [f8]), bMo_readLoaf_15, h.2.1.2.1]
    refine Mo_fail h (by omega) (by omega) (fun υ q1 g => ?_)
    rw [tl_n, bMo_readLoaf_25, if_neg (MBad_n g).2, bMo_readLoaf_32]
    exact h2 _ rfl υ (qt_M q1) g
  rw [if_neg f8] at h1 h2
  rw [if_pos (fun g => f8 ((nI_eq (by omega) (by omega)).mp g)), bMo_readLoaf_25, h.1, if_pos (Int32.le_refl _), bMo_readLoaf_33, nI_add]
  refine Mo_readNew (k := 12 + nl) (by omega) h hB (fun x q1 ex φ s1 g1 gx => ?_) (fun e ee υ s1 g => ?_)
  rotate_left
  · rw [ee] at h2
    rw [tl_n]
    exact mL41_b (by omega) g (bad (qt_M s1) (h2 _ rfl))
  rw [ex] at h1 h2
  dsimp only at h1 h2
  have m1 : MD φ c (updL w (12 + nl) x) := MD_73 hM s1 gx
  have t1 : qt SMd τ φ := qt_mono s1 (fun _ _ => S73_M (by omega))
  have B : ∀ {φ : mSt} {c' : Nat → Int32}, MD φ c' (updL w (12 + nl) x) → c' 0 = c 0 → c' 1 = c 1 → c' 2 = c 2 → BOk φ 4 (updL w (12 + nl) x) np no nl := fun m i0 i1 i2 => ⟨by omega, a1, a2, a3, (m.1 0 (by omega)).trans (i0.trans c0), (m.1 1 (by omega)).trans (i1.trans c1), (m.1 2 (by omega)).trans (i2.trans c2), m.2⟩
  rw [tl_n, bMo_readLoaf_41, Mo_isBy g1, tl_s, bMo_readLoaf_46]
  refine Mo_mustW g1 (fun q2 e4 φ2 s2 gφ2 => ?_) (fun e ee υ s2 g => ?_)
  rotate_left
  · rw [ee] at h2
    rw [tl_n]
    exact mL49_b (by omega) g (bad (qt_tr t1 (qt_M s2)) (h2 _ rfl))
  rw [e4] at h1 h2
  dsimp only at h1 h2
  rw [tl_n, bMo_readLoaf_49, show (0 : Int32) = nI 0 from rfl, nI_add, show 2434 + nl = 2400 + (34 + nl) by omega]
  refine Mo_readTold (a := 0) (b := 4) (by omega) gφ2 (B (MD_q m1 s2) rfl rfl rfl) (fun bk q3 e5 lbk φ3 s3 g3 => ?_) (fun e ee υ s3 g => ?_)
  rotate_left
  · rw [show pName T n w 0 np (-1) q2 = .error e from (pName_u (by omega)).symm.trans ee] at h2
    rw [tl_s]
    exact mL64_b (by omega) g (bad (qt_tr t1 (qt_M (qt_tr s2 s3))) (h2 _ rfl))
  rw [show pName T n w 0 np (-1) q2 = .ok (bk, q3) from (pName_u (by omega)).symm.trans e5] at h1 h2
  dsimp only at h1 h2
  rw [tl_s]
  rw [bMo_readLoaf_64, nI_add, show 2442 + nl = 2400 + (42 + nl) by omega, mOut_f (n := 2400 + (34 + nl)) (by omega) (by omega), mOut_f (n := 2400 + (42 + nl)) (by omega) (by omega), if_neg (by decide), if_neg (by decide), nI_clamp (n := 2400 + (34 + nl)) (by omega), nI_clamp (n := 2400 + (42 + nl)) (by omega), (MOk_s (MOk_s g3)).1, ite_nn rfl, bMo_readLoaf_83]
  have g4 := MOk_s (j := 2400 + (42 + nl)) (v := -1) (MOk_s (j := 2400 + (34 + nl)) (v := nI bk) g3)
  have m4 := MD_s (j := 42 + nl) (v := -1) (MD_s (j := 34 + nl) (v := nI bk) (MD_q m1 (qt_tr s2 s3)))
  have t4 := qt_Ms (j := 42 + nl) (v := -1) (qt_Ms (j := 34 + nl) (v := nI bk) (qt_tr t1 (qt_M (qt_tr s2 s3))) (by omega)) (by omega)
  generalize sI (sI φ3 171 (2400 + (34 + nl)) (nI bk)) 171 (2400 + (42 + nl)) (-1) = φ4 at *
  rw [Mo_isInWord g4, tl_s, bMo_readLoaf_87]
  have rest : ∀ (ov : Int32) (q4 : Nat) (φ5 : mSt), pOvn T n w no q3 = .ok (ov, q4) → qt SMd τ φ5 → MOk φ5 T n q4 → MD φ5 (upd (upd c (34 + nl) (nI bk)) (42 + nl) ov) (updL w (12 + nl) x) → WP E (d + 7) mMo_readLoaf 110 [.ref 166, .int (nI nl)] [] φ5 Q := fun ov q4 φ5 e6 t5 g5 m5 => by
    rw [e6] at h1 h2
    dsimp only at h1 h2
    rw [bMo_readLoaf_110, Mo_isOn g5, tl_s, bMo_readLoaf_115]
    refine Mo_mustW g5 (fun q5 e7 φ6 s6 gφ6 => ?_) (fun e ee υ s6 g => ?_)
    rotate_left
    · rw [ee] at h2
      rw [tl_n]
      exact mL118_b (by omega) g (bad (qt_tr t5 (qt_M s6)) (h2 _ rfl))
    rw [e7] at h1 h2
    dsimp only at h1 h2
    rw [tl_n, bMo_readLoaf_118, show (0 : Int32) = nI 0 from rfl, nI_add, show 2450 + nl = 2400 + (50 + nl) by omega]
    refine Mo_count gφ6 (by omega) (by omega) (fun on q6 e8 φ7 s7 gφ7 => ?_) (fun e ee υ s7 g => ?_)
    rotate_left
    · rw [ee] at h2
      rw [tl_s]
      exact mL134_b (by omega) g (bad (qt_tr (qt_tr t5 (qt_M s6)) (qt_M s7)) (h2 _ rfl))
    rw [e8] at h1 h2
    dsimp only at h1 h2
    rw [tl_s, bMo_readLoaf_134, mOut_f (by omega) (by omega), if_neg (by decide), nI_clamp (by omega)]
    have gψ7 := MOk_s (j := 2400 + (50 + nl)) (v := nI on) gφ7
    have mψ7 := MD_s (j := 50 + nl) (v := nI on) (MD_q m5 (qt_tr s6 s7))
    have tψ7 := qt_Ms (j := 50 + nl) (v := nI on) (qt_tr t5 (qt_M (qt_tr s6 s7))) (by omega)
    generalize sI φ7 171 (2400 + (50 + nl)) (nI on) = ψ7 at *
    rw [Mo_isSlices gψ7, tl_s, bMo_readLoaf_140]
    refine Mo_mustW gψ7 (fun q7 e9 φ8 s8 gφ8 => ?_) (fun e ee υ s8 g => ?_)
    rotate_left
    · rw [ee] at h2
      rw [tl_n]
      exact mL143_b (by omega) g (bad (qt_tr tψ7 (qt_M s8)) (h2 _ rfl))
    rw [e9] at h1 h2
    dsimp only at h1 h2
    rw [tl_n, bMo_readLoaf_143, show (1 : Int32) = nI 1 from rfl, nI_add, show 2458 + nl = 2400 + (58 + nl) by omega]
    refine Mo_count gφ8 (by omega) (by omega) (fun sl q8 e10 φ9 s9 gφ9 => ?_) (fun e ee υ s9 g => ?_)
    rotate_left
    · rw [ee] at h2
      rw [tl_s]
      exact mL159_b (by omega) g (bad (qt_tr (qt_tr tψ7 (qt_M s8)) (qt_M s9)) (h2 _ rfl))
    rw [e10] at h1 h2
    dsimp only at h1 h2
    rw [tl_s, bMo_readLoaf_159, mOut_f (by omega) (by omega), if_neg (by decide), nI_clamp (by omega)]
    have gψ9 := MOk_s (j := 2400 + (58 + nl)) (v := nI sl) gφ9
    have mψ9 := MD_s (j := 58 + nl) (v := nI sl) (MD_q mψ7 (qt_tr s8 s9))
    have tψ9 := qt_Ms (j := 58 + nl) (v := nI sl) (qt_tr tψ7 (qt_M (qt_tr s8 s9))) (by omega)
    generalize sI φ9 171 (2400 + (58 + nl)) (nI sl) = ψ9 at *
    rw [Mo_isFlour gψ9, tl_s, bMo_readLoaf_165]
    refine Mo_mustW gψ9 (fun q9 e11 φ10 s10 gφ10 => ?_) (fun e ee υ s10 g => ?_)
    rotate_left
    · rw [ee] at h2
      rw [tl_n]
      exact mL168_b (by omega) g (bad (qt_tr tψ9 (qt_M s10)) (h2 _ rfl))
    rw [e11] at h1 h2
    dsimp only at h1 h2
    rw [tl_n, bMo_readLoaf_168, show (0 : Int32) = nI 0 from rfl, nI_add, show 2466 + nl = 2400 + (66 + nl) by omega]
    refine Mo_count gφ10 (by omega) (by omega) (fun fl q10 e12 φ11 s11 gφ11 => ?_) (fun e ee υ s11 g => ?_)
    rotate_left
    · rw [ee] at h2
      rw [tl_s]
      exact mL185_b (by omega) g (bad (qt_tr (qt_tr tψ9 (qt_M s10)) (qt_M s11)) (h2 _ rfl))
    rw [e12] at h1 h2
    dsimp only at h1 h2
    rw [tl_s]
    rw [bMo_readLoaf_185, nI_add, show 2474 + nl = 2400 + (74 + nl) by omega, mOut_f (n := 2400 + (66 + nl)) (by omega) (by omega), mOut_f (n := 2400 + (74 + nl)) (by omega) (by omega), if_neg (by decide), if_neg (by decide), nI_clamp (n := 2400 + (66 + nl)) (by omega), nI_clamp (n := 2400 + (74 + nl)) (by omega), (MOk_s (MOk_s gφ11)).1, ite_nn rfl]
    have g12 := MOk_s (j := 2400 + (74 + nl)) (v := -1) (MOk_s (j := 2400 + (66 + nl)) (v := nI fl) gφ11)
    have m12 := MD_s (j := 74 + nl) (v := -1) (MD_s (j := 66 + nl) (v := nI fl) (MD_q mψ9 (qt_tr s10 s11)))
    have t12 := qt_Ms (j := 74 + nl) (v := -1) (qt_Ms (j := 66 + nl) (v := nI fl) (qt_tr tψ9 (qt_M (qt_tr s10 s11))) (by omega)) (by omega)
    generalize sI (sI φ11 171 (2400 + (66 + nl)) (nI fl)) 171 (2400 + (74 + nl)) (-1) = φ12 at *
    have e13 : φ12.1 171 2402 = nI nl := (m12.1 2 (by omega)).trans (by simp (disch := omega) only [upd_n]; exact c2)
    rw [bMo_readLoaf_204, mOut_f (by omega) (by omega), if_neg (by decide), if_neg (by decide), e13, nI_1, bMo_readLoaf_216]
    refine h1 (cLo c nl (nI bk) ov (nI on) (nI sl) (nI fl)) (updL w (12 + nl) x) q10 rfl _ (qt_Ms (j := 2) t12 (by omega)) (MOk_s g12) (MD_s (j := 2) m12) ⟨np, no, nl + 1, nk, a1, a2, by omega, a4, ?_, ?_, ?_, ?_, fun p a b => ?_, fun k a b => ?_, ?_⟩
    all_goals simp (disch := omega) only [cLo, upd_n, upd_e]
    · exact c0
    · exact c1
    · exact c3
    · exact z1 p a b
    · exact z2 k a b
    · exact z3
  by_cases y : isW T n q3 6 = true
  · rw [b2i_t y, if_neg i10, bMo_readLoaf_90]
    refine Mo_nx g4 (fun φ5 s5 g5 => ?_)
    rw [tl_n, bMo_readLoaf_94, show (1 : Int32) = nI 1 from rfl, nI_add, show 2442 + nl = 2400 + (42 + nl) by omega]
    refine Mo_readTold (a := 1) (b := 4) (by omega) g5 (B (MD_q m4 s5) (by simp (disch := omega) only [upd_n]) (by simp (disch := omega) only [upd_n]) (by simp (disch := omega) only [upd_n])) (fun ov q4 e6 lov φ6 s6 g6 => ?_) (fun e ee υ s6 g => ?_)
    · have ep : pName T n w 8 no (-1) (bh T n q3) = .ok (ov, q4) := (pName_u (by omega)).symm.trans e6
      rw [tl_s, bMo_readLoaf_109, mOut_f (by omega) (by omega), if_neg (by decide), nI_clamp (by omega)]
      have m6 := MD_s (j := 42 + nl) (v := nI ov) (MD_q m4 (qt_tr s5 s6))
      rw [upd_u] at m6
      exact rest (nI ov) q4 _ (by unfold pOvn; rw [if_pos y, ep]) (qt_Ms (qt_tr t4 (qt_M (qt_tr s5 s6))) (by omega)) (MOk_s g6) m6
    · have ep : pOvn T n w no q3 = .error e := by
        unfold pOvn
        rw [if_pos y, show pName T n w 8 no (-1) (bh T n q3) = .error e from (pName_u (by omega)).symm.trans ee]
      rw [ep] at h2
      rw [tl_s]
      exact mL109_b (by omega) g (bad (qt_tr t4 (qt_M (qt_tr s5 s6))) (h2 _ rfl))
  · rw [b2i_f y, if_pos rfl]
    exact rest (-1) q3 φ4 (by unfold pOvn; rw [if_neg y]) t4 g4 m4
