theorem Pb_owing_loop {E : mEn} {d : Nat} {Q : mPost} {l : Nat} {τ : mSt} {c : Nat → Int32} {nk : Nat} (h : HS τ 61 c l nk) : ∀ (j p : Nat) (s : Int32), p + j = 8 → s = sF (fun p => hF c l p nk < 0) p → WP E (d + 1) mPb_owing 33 [.ref 0, .int (nI l), .int s, .int (nI p)] [] τ Q = Q (some (.int (sF (fun p => hF c l p nk < 0) 8))) (sI τ 0 10 0)
  | 0, p, s, e, hs => by
    have e' : p = 8 := by omega
    subst e'
    rw [bPb_owing_33, if_pos (Int32.le_refl _), bPb_owing_63, bPb_answer_0, tl_s, bPb_owing_68, hs]
  | j + 1, p, s, e, hs => by
    have e1 : τ.1 62 p = _ := (h p (by omega)).1
    rw [bPb_owing_33, if_neg (nI_ge (by omega) (by omega)), bPb_owing_39, mOut_f (by omega) (by omega), nI_clamp (by omega), e1, if_neg (by decide)]
    by_cases g : hF c l p nk < 0
    · rw [if_neg (Int32.not_le.mpr g), bPb_owing_51, bPb_owing_57, nI_1]
      exact Pb_owing_loop h j (p + 1) _ (by omega) (by rw [sF, if_pos g, hs])
    · rw [if_pos (Int32.not_lt.mp g), bPb_owing_57, nI_1]
      exact Pb_owing_loop h j (p + 1) _ (by omega) (by rw [sF, if_neg g, hs])
theorem Mo_owing_loop {E : mEn} {d : Nat} {Q : mPost} {l np nk : Nat} {τ : mSt} (hl : l < 8) (c0 : τ.1 171 0 = nI np) (hnp : np ≤ 8) (c3 : τ.1 171 3 = nI nk) (hnk : nk ≤ 40) (hb : ∀ p, -3960 ≤ (hF (τ.1 171) l p nk).toInt) : ∀ (j p : Nat) (s : Int32), p + j = np → s = sF (fun p => hF (τ.1 171) l p nk < 0) p → WP E (d + 5) mMo_owing 28 [.ref 166, .int (nI l), .int s, .int (nI p)] [] τ Q = Q (some (.int (sF (fun p => hF (τ.1 171) l p nk < 0) np))) τ
  | 0, p, s, e, hs => by
    have e' : p = np := by omega
    subst e'
    rw [bMo_owing_28, if_neg (by decide), c0, if_pos (Int32.le_refl _), bMo_owing_63, hs]
  | j + 1, p, s, e, hs => by
    rw [bMo_owing_28, if_neg (by decide), c0, if_neg (nI_ge (by omega) (by omega)), bMo_owing_38, Mo_owesOf hl (show p < 8 by omega) c3 hnk, tl_s, bMo_owing_45]
    by_cases g : hF (τ.1 171) l p nk < 0
    · rw [if_neg (by rw [ow_pos (hb p)]; exact Int32.not_le.mpr g), bMo_owing_48, bMo_owing_55, nI_1]
      exact Mo_owing_loop hl c0 hnp c3 hnk hb j (p + 1) _ (by omega) (by rw [sF, if_pos g, hs])
    · rw [if_pos (by rw [ow_pos (hb p)]; exact Int32.not_lt.mp g), bMo_owing_54, bMo_owing_55, nI_1]
      exact Mo_owing_loop hl c0 hnp c3 hnk hb j (p + 1) _ (by omega) (by rw [sF, if_neg g, hs, Int32.or_zero])
theorem P_owing {E : mEn} {d : Nat} {σ : mSt} {a : Int32} {u1 u2 u3 u4 : Value} (hI : Inv σ) : pairI E (d + 5) mPb_owing mMo_owing [.ref 0, .int a, u1, u2] [.ref 166, .int a, u3, u4] σ := by
  obtain ⟨np, no, nl, nk, dy, hT⟩ := Inv_town hI
  obtain ⟨⟨b1, b2, b3, b4, b5⟩, ⟨t1, c1⟩, ⟨t2, c2⟩, ⟨t3, c3⟩, ⟨t4, c4⟩, ⟨t5, c5⟩, c6, gP, gO, gL, gB, gK, -⟩ := id hT
  have hq : ∀ τ : mSt, qt SQ σ τ → (sI (sI τ 166 1 0) 166 0 0).1 171 = σ.1 171 := fun τ q => funext fun k => (q 171 k rfl).1
  have mp := @mpq E σ np c1 b1
  have ml := @mlq E σ nl c3 b3
  have mk := @mkq E σ nk c4 b4
  by_cases ha : mOut a nl = false
  rotate_left
  · refine pairI_q hI (-1) (nI 2) (fun Q k => ?_) (fun τ q Q k => ?_)
    · simp only [bPb_owing_0, bPb_owing_8, bPb_owing_11, bPb_owing_16, bPb_owing_17, bPb_owing_29, bPb_owing_39, bPb_owing_51, bPb_owing_57, bPb_owing_63, bPb_owing_68, Tw_hasPerson T10 t1 b1, Tw_hasLoaf T10 t3 b3, Pr_has T10 t4 b4, tl_s, bPb_refuse_0, b2i_f ha, b2i_T, b2i_F, i10, not_true_eq_false, not_false_eq_true, and_self, and_true, true_and, and_false, false_and, or_true, true_or, or_false, false_or, or_self, if_true, if_false, ite_self, eq_self, Bool.false_eq_true, Bool.true_eq_false]
      exact k _ (by repeat' (first | exact qt_rf | assumption | refine qt_sI ?_ rfl | refine qt_sL ?_ rfl)) rfl
    · simp only [bMo_owing_0, bMo_owing_15, bMo_owing_18, bMo_owing_23, bMo_owing_24, bMo_owing_38, bMo_owing_45, bMo_owing_48, bMo_owing_54, bMo_owing_55, bMo_owing_63, mp τ q, ml τ q, mk τ q, tl_s, bMo_refuse_0, b2i_f ha, b2i_T, b2i_F, i10, not_true_eq_false, not_false_eq_true, and_self, and_true, true_and, and_false, false_and, or_true, true_or, or_false, false_or, or_self, if_true, if_false, ite_self, eq_self, Bool.false_eq_true, Bool.true_eq_false]
      exact k _ (by repeat' (first | exact qt_rf | assumption | refine qt_sI ?_ rfl | refine qt_sL ?_ rfl)) rfl rfl
  have ha' := ha
  obtain ⟨l, hl, rfl⟩ := mOut_n ha
  refine pairI_q hI (sF (fun p => hF (σ.1 171) l p nk < 0) np) 0 (fun Q k => ?_) (fun τ q Q k => ?_)
  · simp only [bPb_owing_0, bPb_owing_8, bPb_owing_17, Tw_hasPerson T10 t1 b1, Tw_hasLoaf T10 t3 b3, Pr_has T10 t4 b4, tl_s, b2i_t ha', b2i_T, b2i_F, i10, not_true_eq_false, not_false_eq_true, and_self, and_true, true_and, and_false, false_and, or_true, true_or, or_false, false_or, or_self, if_true, if_false, ite_self, eq_self, Bool.false_eq_true, Bool.true_eq_false]
    refine Sh_weigh H61 T10 hT hl (fun τ q g => ?_)
    rw [tl_n, bPb_owing_29]
    refine Eq.mpr (Pb_owing_loop (Q := Q) g.1 8 0 0 (by omega) rfl) ?_
    have e8 : sF (fun p => hF (σ.1 171) l p nk < 0) (np + (8 - np)) = sF (fun p => hF (σ.1 171) l p nk < 0) np := sF_z (8 - np) (fun x h1 h2 => by rw [TRel_hz hT hl h1 (by omega)]; decide)
    rw [show np + (8 - np) = 8 by omega] at e8
    rw [e8]
    exact k _ (qt_sI (qt_mono q (fun o k => SH_SQ)) rfl) rfl
  · simp only [bMo_owing_0, bMo_owing_15, bMo_owing_24, mp τ q, ml τ q, mk τ q, tl_s, b2i_t ha', b2i_T, b2i_F, i10, not_true_eq_false, not_false_eq_true, and_self, and_true, true_and, and_false, false_and, or_true, true_or, or_false, false_or, or_self, if_true, if_false, ite_self, eq_self, Bool.false_eq_true, Bool.true_eq_false]
    refine Eq.mpr (Mo_owing_loop (Q := Q) (τ := sI (sI τ 166 1 0) 166 0 0) (show l < 8 by omega) (by rw [hq τ q]; exact c1) b1 (by rw [hq τ q]; exact c4) b4 (fun p => by rw [hq τ q]; exact (TRel_hb hT hl p).1) np 0 0 (by omega) rfl) ?_
    rw [hq τ q]
    exact k _ (by repeat' (first | exact qt_rf | assumption | refine qt_sI ?_ rfl | refine qt_sL ?_ rfl)) rfl rfl
