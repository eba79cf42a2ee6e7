def pWd (T : Nat → Int32) (n k q : Nat) : Except (Nat × Nat) Nat := if isW T n q k then .ok (bh T n q) else .error (er T n q)
def pSg (T : Nat → Int32) (n q : Nat) : Except (Nat × Nat) Nat := if isS T n q 59 then .ok (bh T n q) else .error (er T n q)
def pOvn (T : Nat → Int32) (n : Nat) (w : Nat → Int64) (no q : Nat) : Except (Nat × Nat) (Int32 × Nat) := if isW T n q 6 then (match pName T n w 8 no (-1) (bh T n q) with | .error e => .error e | .ok (k, q') => .ok (nI k, q')) else .ok (-1, q)
def pLoaf (T : Nat → Int32) (n : Nat) (c : Nat → Int32) (w : Nat → Int64) (q : Nat) : Except (Nat × Nat) ((Nat → Int32) × (Nat → Int64) × Nat) :=
  if cN c 2 = 8 then .error (6, pl T n q) else
  match pNew T n w (cN c 0) (cN c 1) (cN c 2) (bh T n q) with
  | .error e => .error e
  | .ok (x, q1) => match pWd T n 5 q1 with
  | .error e => .error e
  | .ok q2 => match pName T n w 0 (cN c 0) (-1) q2 with
  | .error e => .error e
  | .ok (bk, q3) => match pOvn T n w (cN c 1) q3 with
  | .error e => .error e
  | .ok (ov, q4) => match pWd T n 7 q4 with
  | .error e => .error e
  | .ok q5 => match pNum T n 0 99 q5 with
  | .error e => .error e
  | .ok (on, q6) => match pWd T n 8 q6 with
  | .error e => .error e
  | .ok q7 => match pNum T n 1 99 q7 with
  | .error e => .error e
  | .ok (sl, q8) => match pWd T n 9 q8 with
  | .error e => .error e
  | .ok q9 => match pNum T n 0 999 q9 with
  | .error e => .error e
  | .ok (fl, q10) => match pSg T n q10 with
  | .error e => .error e
  | .ok q11 => .ok (cLo c (cN c 2) (nI bk) ov (nI on) (nI sl) (nI fl), updL w (12 + cN c 2) x, q11)
theorem To_word {E : mEn} {d : Nat} {Q : mPost} {τ : mSt} {T : Nat → Int32} {n q k : Nat} (h : COk τ T n q) (hk : k < 28) (h1 : ∀ q', pWd T n k q = .ok q' → ∀ υ, qt S6b τ υ → COk υ T n q' → Q none υ) (h2 : ∀ e, pWd T n k q = .error e → ∀ υ, qt S6b τ υ → CBad υ e → Q none υ) : WP E (d + 2) mTo_takeWord 0 [.ref 6, .int (nI k)] [] τ Q :=
  To_takeWord h hk (fun z => h1 _ (if_pos z)) (fun z => h2 _ (if_neg z))
theorem Te_ends {E : mEn} {d : Nat} {Q : mPost} {τ : mSt} {T : Nat → Int32} {n q : Nat} (h : COk τ T n q) (h1 : ∀ q', pSg T n q = .ok q' → ∀ υ, qt S6b τ υ → COk υ T n q' → Q (some (.int 1)) υ) (h2 : ∀ e, pSg T n q = .error e → ∀ υ, qt S6b τ υ → CBad υ e → Q (some (.int 0)) υ) : WP E (d + 3) mTe_endsPart 0 [.ref 5] [] τ Q :=
  Te_endsPart h (fun z => h1 _ (if_pos z)) (fun z => h2 _ (if_neg z))
section RL
variable {E : mEn} {d : Nat} {Q : mPost} {τ : mSt} {x : Int64} {a5 a6 a7 a8 a9 s : Int32} {u3 u4 u5 u6 u7 u8 u9 : Value}
theorem rL143_b (h : ¬ τ.1 6 9 = 0) : WP E (d + 4) mTe_readLoaf 143 [.ref 5, .ref 35, .ref 36, .long x, uu, .int a5, .int a6, .int a7, .int a8, u9] [.int s] τ Q = Q none τ := by
  rw [bTe_readLoaf_143 T35, Te_endsPart_b h, tl_s, bTe_readLoaf_149 T35, if_pos rfl, bTe_readLoaf_167 T35]
theorem rL132_b (h : ¬ τ.1 6 9 = 0) : WP E (d + 4) mTe_readLoaf 132 [.ref 5, .ref 35, .ref 36, .long x, uu, .int a5, .int a6, .int a7, .int a8, u9] [] τ Q = Q none τ := by
  rw [bTe_readLoaf_132 T35, To_takeNumber_b h, tl_s, rL143_b h]
theorem rL121_b (h : ¬ τ.1 6 9 = 0) : WP E (d + 4) mTe_readLoaf 121 [.ref 5, .ref 35, .ref 36, .long x, uu, .int a5, .int a6, .int a7, u8, u9] [.int s] τ Q = Q none τ := by
  rw [bTe_readLoaf_121 T35, To_takeWord_b h, tl_n, rL132_b h]
theorem rL111_b (h : ¬ τ.1 6 9 = 0) : WP E (d + 4) mTe_readLoaf 111 [.ref 5, .ref 35, .ref 36, .long x, uu, .int a5, .int a6, .int a7, u8, u9] [] τ Q = Q none τ := by
  rw [bTe_readLoaf_111 T35, To_takeNumber_b h, tl_s, rL121_b h]
theorem rL100_b (h : ¬ τ.1 6 9 = 0) : WP E (d + 4) mTe_readLoaf 100 [.ref 5, .ref 35, .ref 36, .long x, uu, .int a5, .int a6, u7, u8, u9] [.int s] τ Q = Q none τ := by
  rw [bTe_readLoaf_100 T35, To_takeWord_b h, tl_n, rL111_b h]
theorem rL90_b (h : ¬ τ.1 6 9 = 0) : WP E (d + 4) mTe_readLoaf 90 [.ref 5, .ref 35, .ref 36, .long x, uu, .int a5, .int a6, u7, u8, u9] [] τ Q = Q none τ := by
  rw [bTe_readLoaf_90 T35, To_takeNumber_b h, tl_s, rL100_b h]
theorem rL79_b (h : ¬ τ.1 6 9 = 0) : WP E (d + 4) mTe_readLoaf 79 [.ref 5, .ref 35, .ref 36, .long x, uu, .int a5, u6, u7, u8, u9] [.int s] τ Q = Q none τ := by
  rw [bTe_readLoaf_79 T35, To_takeWord_b h, tl_n, rL90_b h]
theorem rL51_b (h : ¬ τ.1 6 9 = 0) : WP E (d + 4) mTe_readLoaf 51 [.ref 5, .ref 35, .ref 36, .long x, uu, u5, u6, u7, u8, u9] [.int s] τ Q = Q none τ := by
  rw [bTe_readLoaf_51 T35, To_skips_b h, tl_s, bTe_readLoaf_62 T35, if_pos rfl, bTe_readLoaf_78 T35, rL79_b h]
theorem rL41_b (h : ¬ τ.1 6 9 = 0) : WP E (d + 4) mTe_readLoaf 41 [.ref 5, .ref 35, .ref 36, .long x, uu, u5, u6, u7, u8, u9] [] τ Q = Q none τ := by
  rw [bTe_readLoaf_41 T35, To_takeName_b T35 h, tl_s, rL51_b h]
theorem rL32_b (h : ¬ τ.1 6 9 = 0) : WP E (d + 4) mTe_readLoaf 32 [.ref 5, .ref 35, .ref 36, u3, u4, u5, u6, u7, u8, u9] [.long x] τ Q = Q none τ := by
  rw [bTe_readLoaf_32 T35, To_takeWord_b h, tl_n, rL41_b h]
theorem rL24_b (h : ¬ τ.1 6 9 = 0) : WP E (d + 4) mTe_readLoaf 24 [.ref 5, .ref 35, .ref 36, u3, u4, u5, u6, u7, u8, u9] [] τ Q = Q none τ := by
  rw [bTe_readLoaf_24 T35, To_takeNewName_b T35 h, tl_s, rL32_b h]
end RL
theorem Te_readLoaf {E : mEn} {d : Nat} {Q : mPost} {τ : mSt} {T : Nat → Int32} {n q : Nat} {c : Nat → Int32} {w : Nat → Int64} {u2 u3 u4 u5 u6 u7 u8 u9 : Value} (h : COk τ T n q) (hw : isW T n q 4 = true) (hD : DR τ c w) (h1 : ∀ c' w' q', pLoaf T n c w q = .ok (c', w', q') → ∀ υ, qt SRd τ υ → COk υ T n q' → DR υ c' w' → (∀ k, υ.1 44 k = τ.1 44 k) → Q none υ) (h2 : ∀ e, pLoaf T n c w q = .error e → ∀ υ, qt SRd τ υ → CBad υ e → (∀ k, υ.1 44 k = τ.1 44 k) → Q none υ) : WP E (d + 4) mTe_readLoaf 0 [.ref 5, .ref 35, u2, u3, u4, u5, u6, u7, u8, u9] [] τ Q := by
  obtain ⟨np, no, nl, nk, hT, h17, hk16, hZ⟩ := hD
  obtain ⟨hN, e0, e1, e2, e3⟩ := TRel_N hT
  have n8 : nl ≤ 8 := hN.2.2.1
  unfold pLoaf at h1 h2
  rw [e0, e1, e2] at h1 h2
  have nO : ∀ {φ : mSt}, qt S6b τ φ → NOk φ 35 w np no nl := fun q1 => (TRel_N (TRel_q q1 (fun j k hj _ _ => S6b_D (by omega)) hT)).1
  have bad : ∀ {φ : mSt} {e : Nat × Nat}, qt S6b τ φ → CBad φ e → (∀ υ, qt SRd τ υ → CBad υ e → (∀ k, υ.1 44 k = τ.1 44 k) → Q none υ) → Q none φ := fun q1 g k => k _ (qt_mono q1 (fun o k => S6b_R)) g (fun k => (q1 44 k rfl).1)
  rw [bTe_readLoaf_0 T35, hT.2.2.2.1.1]
  by_cases f8 : nl = 8
  · rw [if_pos f8] at h2
    rw [if_pos (nI_le (by omega) (by omega)), bTe_readLoaf_20 T35, bTe_readLoaf_21 T35]
    refine Te_beginPart_f (k := 4) h (fun υ q1 g => ?_)
    rw [tl_n, rL24_b (CBad_n g)]
    exact bad q1 g (h2 _ rfl)
  rw [if_neg f8] at h1 h2
  rw [if_neg (nI_ge (by omega) (by omega)), bTe_readLoaf_16 T35, bTe_readLoaf_21 T35]
  refine Te_beginPart h (by omega) hw (fun φ1 s1 g1 => ?_)
  rw [tl_n, bTe_readLoaf_24 T35]
  refine To_takeNewName T35 g1 (nO s1) (fun x q1 ex φ2 s2 g2 => ?_) (fun e ee υ s2 g2 => ?_)
  rotate_left
  · rw [ee] at h2
    rw [tl_s, rL32_b (CBad_n g2)]
    exact bad (qt_tr s1 s2) g2 (h2 _ rfl)
  have t2 := qt_tr s1 s2
  rw [ex] at h1 h2
  dsimp only at h1 h2
  have hx := pNew_nz ex
  rw [tl_s, bTe_readLoaf_32 T35]
  refine To_word g2 (by omega) (fun q2 e3 φ3 s3 g3 => ?_) (fun e ee υ s3 g3 => ?_)
  rotate_left
  · rw [ee] at h2
    rw [tl_n, rL41_b (CBad_n g3)]
    exact bad (qt_tr t2 s3) g3 (h2 _ rfl)
  have t3 := qt_tr t2 s3
  rw [e3] at h1 h2
  dsimp only at h1 h2
  rw [tl_n, bTe_readLoaf_41 T35, show (0 : Int32) = nI 0 from rfl]
  refine To_takeName T35 (by omega) g3 (nO t3) (fun bk q3 e4 lbk φ4 s4 g4 => ?_) (fun e v ee υ s4 g4 => ?_)
  rotate_left
  · rw [show pName T n w 0 np (-1) q2 = .error e from ee] at h2
    rw [tl_s, rL51_b (CBad_n g4)]
    exact bad (qt_tr t3 s4) g4 (h2 _ rfl)
  have t4 := qt_tr t3 s4
  rw [show pName T n w 0 np (-1) q2 = .ok (bk, q3) from e4] at h1 h2
  dsimp only at h1 h2
  rw [tl_s, bTe_readLoaf_51 T35]
  have rest : ∀ (ov : Int32) (q4 : Nat) (φ5 : mSt), pOvn T n w no q3 = .ok (ov, q4) → (ov = -1 ∨ ∃ k, k < no ∧ ov = nI k) → qt S6b τ φ5 → COk φ5 T n q4 → WP E (d + 4) mTe_readLoaf 79 [.ref 5, .ref 35, .ref 36, .long x, uu, .int (nI bk), u6, u7, u8, u9] [.int ov] φ5 Q := fun ov q4 φ5 e5 hov t5 g5 => by
    rw [e5] at h1 h2
    dsimp only at h1 h2
    rw [bTe_readLoaf_79 T35]
    refine To_word g5 (by omega) (fun q5 e6 φ6 s6 g6 => ?_) (fun e ee υ s6 g6 => ?_)
    rotate_left
    · rw [ee] at h2
      rw [tl_n, rL90_b (CBad_n g6)]
      exact bad (qt_tr t5 s6) g6 (h2 _ rfl)
    have t6 := qt_tr t5 s6
    rw [e6] at h1 h2
    dsimp only at h1 h2
    rw [tl_n, bTe_readLoaf_90 T35, show (0 : Int32) = nI 0 from rfl]
    refine To_takeNumber g6 (by omega) (by omega) (fun on q6 e7 φ7 s7 g7 => ?_) (fun e ee υ s7 g7 => ?_)
    rotate_left
    · rw [ee] at h2
      rw [tl_s, rL100_b (CBad_n g7)]
      exact bad (qt_tr t6 s7) g7 (h2 _ rfl)
    have t7 := qt_tr t6 s7
    rw [e7] at h1 h2
    dsimp only at h1 h2
    rw [tl_s, bTe_readLoaf_100 T35]
    refine To_word g7 (by omega) (fun q7 e8 φ8 s8 g8 => ?_) (fun e ee υ s8 g8 => ?_)
    rotate_left
    · rw [ee] at h2
      rw [tl_n, rL111_b (CBad_n g8)]
      exact bad (qt_tr t7 s8) g8 (h2 _ rfl)
    have t8 := qt_tr t7 s8
    rw [e8] at h1 h2
    dsimp only at h1 h2
    rw [tl_n, bTe_readLoaf_111 T35, show (1 : Int32) = nI 1 from rfl]
    refine To_takeNumber g8 (by omega) (by omega) (fun sl q8 e9 φ9 s9 g9 => ?_) (fun e ee υ s9 g9 => ?_)
    rotate_left
    · rw [ee] at h2
      rw [tl_s, rL121_b (CBad_n g9)]
      exact bad (qt_tr t8 s9) g9 (h2 _ rfl)
    have t9 := qt_tr t8 s9
    rw [e9] at h1 h2
    dsimp only at h1 h2
    rw [tl_s, bTe_readLoaf_121 T35]
    refine To_word g9 (by omega) (fun q9 e10 φ10 s10 g10 => ?_) (fun e ee υ s10 g10 => ?_)
    rotate_left
    · rw [ee] at h2
      rw [tl_n, rL132_b (CBad_n g10)]
      exact bad (qt_tr t9 s10) g10 (h2 _ rfl)
    have t10 := qt_tr t9 s10
    rw [e10] at h1 h2
    dsimp only at h1 h2
    rw [tl_n, bTe_readLoaf_132 T35, show (0 : Int32) = nI 0 from rfl]
    refine To_takeNumber g10 (by omega) (by omega) (fun fl q10 e11 φ11 s11 g11 => ?_) (fun e ee υ s11 g11 => ?_)
    rotate_left
    · rw [ee] at h2
      rw [tl_s, rL143_b (CBad_n g11)]
      exact bad (qt_tr t10 s11) g11 (h2 _ rfl)
    have t11 := qt_tr t10 s11
    rw [e11] at h1 h2
    dsimp only at h1 h2
    rw [tl_s, bTe_readLoaf_143 T35]
    refine Te_ends g11 (fun q11 e12 φ12 s12 g12 => ?_) (fun e ee υ s12 g12 => ?_)
    rotate_left
    · rw [ee] at h2
      rw [tl_s, bTe_readLoaf_149 T35, if_pos rfl, bTe_readLoaf_167 T35]
      exact bad (qt_tr t11 s12) g12 (h2 _ rfl)
    have t12 := qt_tr t11 s12
    rw [e12] at h1
    dsimp only at h1
    have h1' := h1 _ _ _ rfl
    have hT3 : TRel φ12 35 c w np no nl nk 0 := TRel_q t12 (fun j k hj _ _ => S6b_D (by omega)) hT
    obtain ⟨z1, z2, z3⟩ := hZ
    rw [tl_s, bTe_readLoaf_149 T35, if_neg i10, bTe_readLoaf_152 T35]
    have l7 := pNum_le e7
    have l9 := pNum_le e9
    have l11 := pNum_le e11
    refine Tw_addLoaf T35 hT3 (by omega) lbk hov l7.2 l9.1 l9.2 l11.2 hx z3 ((t12 35 17 rfl).1.trans h17) (fun ω q4 g4 g5 g6 => ?_)
    rw [tl_n, bTe_readLoaf_167 T35]
    refine h1' ω (qt_tr (qt_mono t12 (fun o k => S6b_R)) (qt_mono q4 (fun o k => STc_R))) ?_ ⟨np, no, nl + 1, nk, g4, ?_, hk16, ⟨fun p a b => ?_, fun k a b => ?_, ?_⟩⟩ (fun k => (g5 k).trans (t12 44 k rfl).1)
    · exact COk_q g12 q4 (fun k => rfl) (fun k => rfl) (fun k => rfl)
    · exact g6.trans ((t12 35 17 rfl).1.trans h17)
    · have ec : ∀ j, 6 ≤ j → j < 34 → cLo c nl (nI bk) ov (nI on) (nI sl) (nI fl) j = c j := fun j x1 x2 => by
        unfold cLo
        rw [upd_n (by omega), upd_n (by omega), upd_n (by omega), upd_n (by omega), upd_n (by omega), upd_n (by omega), upd_n (by omega)]
      rw [ec _ (by omega) (by omega), ec _ (by omega) (by omega), ec _ (by omega) (by omega)]
      exact z1 p a b
    · unfold cLo
      rw [upd_n (by omega), upd_n (by omega), upd_n (by omega), upd_n (by omega), upd_n (by omega), upd_n (by omega), upd_n (by omega)]
      exact z2 k a b
    · unfold cLo
      rw [upd_n (by omega), upd_n (by omega), upd_n (by omega), upd_n (by omega), upd_n (by omega), upd_n (by omega), upd_n (by omega)]
      exact z3
  refine To_skips g4 (by omega) (fun z φ5 s5 g5 => ?_) (fun z => ?_)
  · rw [tl_s, bTe_readLoaf_62 T35, if_neg i10, bTe_readLoaf_65 T35, show (1 : Int32) = nI 1 from rfl]
    have t5 := qt_tr t4 s5
    refine To_takeName T35 (by omega) g5 (nO t5) (fun k q4 e5 lk φ6 s6 g6 => ?_) (fun e v ee υ s6 g6 => ?_)
    · rw [tl_s, bTe_readLoaf_75 T35]
      refine rest (nI k) q4 φ6 ?_ (Or.inr ⟨k, lk, rfl⟩) (qt_tr t5 s6) g6
      unfold pOvn
      rw [if_pos z, show pName T n w 8 no (-1) (bh T n q3) = .ok (k, q4) from e5]
    · have ep : pOvn T n w no q3 = .error e := by
        unfold pOvn
        rw [if_pos z, show pName T n w 8 no (-1) (bh T n q3) = .error e from ee]
      rw [ep] at h2
      rw [tl_s, bTe_readLoaf_75 T35, rL79_b (CBad_n g6)]
      exact bad (qt_tr t5 s6) g6 (h2 _ rfl)
  · rw [tl_s, bTe_readLoaf_62 T35, if_pos rfl, bTe_readLoaf_78 T35]
    exact rest (-1) q3 φ4 (by unfold pOvn; rw [if_neg z]) (Or.inl rfl) t4 g4
