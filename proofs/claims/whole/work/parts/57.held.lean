theorem H61 : isH 61 := Or.inl rfl
theorem SH_SQ {o k : Nat} (h : SHs 61 o k = true) : SQ o k = true := by
  simp only [SHs, Bool.and_eq_true, decide_eq_true_eq] at h
  have h1 : (decide (61 ≤ o) && decide (o ≤ 67)) = true := by simp; omega
  simp only [SQ, h1, Bool.or_true, Bool.true_or]
theorem SLn_SQ {o k : Nat} (h : SLn o k = true) : SQ o k = true := by
  simp only [SLn, Bool.or_eq_true, Bool.and_eq_true, beq_iff_eq] at h
  rcases h with rfl | ⟨rfl, rfl⟩ <;> rfl
theorem P_holds {E : mEn} {d : Nat} {σ : mSt} {a b : Int32} (hI : Inv σ) : pairI E (d + 5) mPb_holds mMo_holds [.ref 0, .int a, .int b] [.ref 166, .int a, .int b] σ := by
  obtain ⟨np, no, nl, nk, dy, hT⟩ := Inv_town hI
  obtain ⟨⟨b1, b2, b3, b4, b5⟩, ⟨t1, c1⟩, -, ⟨t3, c3⟩, ⟨t4, c4⟩, -⟩ := id hT
  have hq : ∀ τ : mSt, qt SQ σ τ → τ.1 171 = σ.1 171 := fun τ q => funext fun k => (q 171 k rfl).1
  have mp := fun (τ : mSt) (q : qt SQ σ τ) (Q : mPost) => Mo_isPersonAt (E := E) (d := d + 3) (σ := sI (sI τ 166 1 0) 166 0 0) (a := a) (Q := Q) ((q 171 0 rfl).1.trans c1) b1
  have ml := fun (τ : mSt) (q : qt SQ σ τ) (Q : mPost) => Mo_isLoafAt (E := E) (d := d + 3) (σ := sI (sI τ 166 1 0) 166 0 0) (a := b) (Q := Q) ((q 171 2 rfl).1.trans c3) b3
  by_cases ha : mOut a np = false
  rotate_left
  · refine pairI_q hI (-1) (nI 2) (fun Q k => ?_) (fun τ q Q k => ?_)
    · simp only [bPb_holds_0, bPb_holds_8, bPb_holds_11, bPb_holds_19, bPb_holds_22, bPb_holds_27, bPb_holds_28, bPb_holds_40, bPb_holds_53, Tw_hasPerson T10 t1 b1, bPb_refuse_0, tl_s, b2i_f ha, not_true_eq_false, not_false_eq_true, and_self, and_true, true_and, and_false, false_and, or_true, true_or, or_false, false_or, or_self, if_true, if_false, ite_self, eq_self, Bool.false_eq_true, Bool.true_eq_false]
      exact k _ (by repeat' (first | exact qt_rf | assumption | refine qt_sI ?_ rfl | refine qt_sL ?_ rfl)) rfl
    · simp only [bMo_holds_0, bMo_holds_15, bMo_holds_18, bMo_holds_23, bMo_holds_26, bMo_holds_32, bMo_holds_35, bMo_holds_40, mp τ q, bMo_refuse_0, tl_s, b2i_f ha, not_true_eq_false, not_false_eq_true, and_self, and_true, true_and, and_false, false_and, or_true, true_or, or_false, false_or, or_self, if_true, if_false, ite_self, eq_self, Bool.false_eq_true, Bool.true_eq_false]
      exact k _ (by repeat' (first | exact qt_rf | assumption | refine qt_sI ?_ rfl | refine qt_sL ?_ rfl)) rfl rfl
  by_cases hb : mOut b nl = false
  rotate_left
  · refine pairI_q hI (-1) (nI 2) (fun Q k => ?_) (fun τ q Q k => ?_)
    · simp only [bPb_holds_0, bPb_holds_8, bPb_holds_11, bPb_holds_19, bPb_holds_22, bPb_holds_27, bPb_holds_28, bPb_holds_40, bPb_holds_53, Tw_hasPerson T10 t1 b1, Tw_hasLoaf T10 t3 b3, bPb_refuse_0, tl_s, b2i_t ha, b2i_f hb, i10, not_true_eq_false, not_false_eq_true, and_self, and_true, true_and, and_false, false_and, or_true, true_or, or_false, false_or, or_self, if_true, if_false, ite_self, eq_self, Bool.false_eq_true, Bool.true_eq_false]
      exact k _ (by repeat' (first | exact qt_rf | assumption | refine qt_sI ?_ rfl | refine qt_sL ?_ rfl)) rfl
    · simp only [bMo_holds_0, bMo_holds_15, bMo_holds_18, bMo_holds_23, bMo_holds_26, bMo_holds_32, bMo_holds_35, bMo_holds_40, mp τ q, ml τ q, bMo_refuse_0, tl_s, b2i_t ha, b2i_f hb, i10, not_true_eq_false, not_false_eq_true, and_self, and_true, true_and, and_false, false_and, or_true, true_or, or_false, false_or, or_self, if_true, if_false, ite_self, eq_self, Bool.false_eq_true, Bool.true_eq_false]
      exact k _ (by repeat' (first | exact qt_rf | assumption | refine qt_sI ?_ rfl | refine qt_sL ?_ rfl)) rfl rfl
  have hb' := hb
  have ha' := ha
  obtain ⟨p, hp, rfl⟩ := mOut_n ha
  obtain ⟨l, hl, rfl⟩ := mOut_n hb
  refine pairI_q hI (hF (σ.1 171) l p nk) 0 (fun Q k => ?_) (fun τ q Q k => ?_)
  · simp only [bPb_holds_0, bPb_holds_8, bPb_holds_11, bPb_holds_19, bPb_holds_28, Tw_hasPerson T10 t1 b1, Tw_hasLoaf T10 t3 b3, tl_s, b2i_t ha', b2i_t hb', i10, not_true_eq_false, not_false_eq_true, and_self, and_true, true_and, and_false, false_and, or_true, true_or, or_false, false_or, or_self, if_true, if_false, ite_self, eq_self, Bool.false_eq_true, Bool.true_eq_false]
    refine Sh_weigh H61 T10 hT hl (fun τ q g => ?_)
    rw [tl_n, bPb_holds_40, mOut_f (by omega) (by omega), nI_clamp (by omega), if_neg (by decide), (g.1 p (by omega)).1, bPb_answer_0, tl_s, bPb_holds_53]
    exact k _ (qt_sI (qt_mono q (fun o k => SH_SQ)) rfl) rfl
  · simp only [bMo_holds_0, bMo_holds_15, bMo_holds_18, bMo_holds_23, bMo_holds_26, bMo_holds_32, bMo_holds_35, bMo_holds_40, mp τ q, ml τ q, tl_s, b2i_t ha', b2i_t hb', i10, not_true_eq_false, not_false_eq_true, and_self, and_true, true_and, and_false, false_and, or_true, true_or, or_false, false_or, or_self, if_true, if_false, ite_self, eq_self, Bool.false_eq_true, Bool.true_eq_false]
    rw [Mo_holdsOf (σ := sI (sI τ 166 1 0) 166 0 0) (show l < 8 by omega) (show p < 8 by omega) ((q 171 3 rfl).1.trans c4) b4, show (sI (sI τ 166 1 0) 166 0 0).1 171 = σ.1 171 from hq τ q]
    simp only [tl_s, bMo_holds_32, bMo_holds_40]
    exact k _ (by repeat' (first | exact qt_rf | assumption | refine qt_sI ?_ rfl | refine qt_sL ?_ rfl)) rfl rfl
theorem P_line {E : mEn} {d : Nat} {σ : mSt} {a b : Int32} (hI : Inv σ) : pairI E (d + 5) mPb_line mMo_line [.ref 0, .int a, .int b] [.ref 166, .int a, .int b] σ := by
  obtain ⟨np, no, nl, nk, dy, hT⟩ := Inv_town hI
  obtain ⟨⟨b1, b2, b3, b4, b5⟩, ⟨t1, c1⟩, -, ⟨t3, c3⟩, ⟨t4, c4⟩, -⟩ := id hT
  have hq : ∀ τ : mSt, qt SQ σ τ → τ.1 171 = σ.1 171 := fun τ q => funext fun k => (q 171 k rfl).1
  have ml := fun (τ : mSt) (q : qt SQ σ τ) (Q : mPost) => Mo_isLoafAt (E := E) (d := d + 3) (σ := sI (sI τ 166 1 0) 166 0 0) (a := a) (Q := Q) ((q 171 2 rfl).1.trans c3) b3
  by_cases ha : mOut a nl = false
  rotate_left
  · refine pairI_q hI (-1) (nI 2) (fun Q k => ?_) (fun τ q Q k => ?_)
    · simp only [bPb_line_0, bPb_line_8, bPb_line_11, bPb_line_16, bPb_line_17, bPb_line_29, bPb_line_33, bPb_line_44, bPb_line_50, bPb_line_51, bPb_line_64, Tw_hasLoaf T10 t3 b3, bPb_refuse_0, tl_s, b2i_f ha, not_true_eq_false, not_false_eq_true, and_self, and_true, true_and, and_false, false_and, or_true, true_or, or_false, false_or, or_self, if_true, if_false, ite_self, eq_self, Bool.false_eq_true, Bool.true_eq_false]
      exact k _ (by repeat' (first | exact qt_rf | assumption | refine qt_sI ?_ rfl | refine qt_sL ?_ rfl)) rfl
    · simp only [bMo_line_0, bMo_line_15, bMo_line_18, bMo_line_23, bMo_line_24, bMo_line_29, bMo_line_42, bMo_line_45, bMo_line_54, bMo_line_60, ml τ q, bMo_refuse_0, tl_s, b2i_f ha, not_true_eq_false, not_false_eq_true, and_self, and_true, true_and, and_false, false_and, or_true, true_or, or_false, false_or, or_self, if_true, if_false, ite_self, eq_self, Bool.false_eq_true, Bool.true_eq_false]
      exact k _ (by repeat' (first | exact qt_rf | assumption | refine qt_sI ?_ rfl | refine qt_sL ?_ rfl)) rfl rfl
  have ha' := ha
  obtain ⟨l, hl, rfl⟩ := mOut_n ha
  have len := RF_len (key := fun q => snc (σ.1 171) l q nk) (held := fun q => hF (σ.1 171) l q nk) np
  have X : ∀ (v s : Int32), (∀ (τ : mSt) (Q : mPost), LN τ 61 (LF (σ.1 171) l np nk) → WP E (d + 5) mPb_line 29 [.ref 0, .int (nI l), .int b] [] τ Q = Q (some (.int v)) (sI τ 0 10 s)) → (∀ (τ : mSt) (Q : mPost), LNm τ (LF (σ.1 171) l np nk) → τ.1 166 0 = 0 → (∀ υ, qt SQ τ υ → υ.1 166 0 = s → υ.1 0 10 = τ.1 0 10 → Q (some (.int v)) υ) → WP E (d + 5) mMo_line 29 [.ref 166, .int (nI l), .int b] [] τ Q) → pairI E (d + 5) mPb_line mMo_line [.ref 0, .int (nI l), .int b] [.ref 166, .int (nI l), .int b] σ := by
    intro v s hx hy
    refine pairI_q hI v s (fun Q k => ?_) (fun τ q Q k => ?_)
    · simp only [bPb_line_0, bPb_line_8, bPb_line_17, Tw_hasLoaf T10 t3 b3, tl_s, b2i_t ha', i10, not_true_eq_false, not_false_eq_true, and_self, and_true, true_and, and_false, false_and, or_true, true_or, or_false, false_or, or_self, if_true, if_false, ite_self, eq_self, Bool.false_eq_true, Bool.true_eq_false]
      refine Sh_weigh H61 T10 hT hl (fun τ q g => ?_)
      rw [tl_n, hx τ Q (by rw [← LF_8 hT hl]; exact g.2)]
      exact k _ (qt_sI (qt_mono q (fun o k => SH_SQ)) rfl) rfl
    · simp only [bMo_line_0, bMo_line_15, bMo_line_24, ml τ q, tl_s, b2i_t ha', i10, not_true_eq_false, not_false_eq_true, and_self, and_true, true_and, and_false, false_and, or_true, true_or, or_false, false_or, or_self, if_true, if_false, ite_self, eq_self, Bool.false_eq_true, Bool.true_eq_false]
      refine Mo_lines (σ := sI (sI τ 166 1 0) 166 0 0) (show l < 8 by omega) ((q 171 0 rfl).1.trans c1) b1 ((q 171 3 rfl).1.trans c4) b4 (fun υ qυ g => ?_)
      rw [show (sI (sI τ 166 1 0) 166 0 0).1 171 = σ.1 171 from hq τ q] at g
      rw [tl_n]
      have qυ' : qt SQ τ υ := qt_tr (τ := sI (sI τ 166 1 0) 166 0 0) (by repeat' (first | exact qt_rf | assumption | refine qt_sI ?_ rfl | refine qt_sL ?_ rfl)) (qt_mono qυ (fun o k => SLn_SQ))
      exact hy υ Q g ((qυ 166 0 rfl).1.trans rfl) (fun ω q1 q2 q3 => k ω (qt_tr qυ' q1) q2 (q3.trans ((qυ 0 10 rfl).1.trans rfl)))
  have len8 : (LF (σ.1 171) l np nk).length ≤ 8 := by unfold LF; omega
  by_cases hb : mOut b (LF (σ.1 171) l np nk).length = false
  · have hb' := hb
    obtain ⟨j, hj, rfl⟩ := mOut_n hb
    obtain ⟨x, hx⟩ : ∃ x, (LF (σ.1 171) l np nk)[(LF (σ.1 171) l np nk).length - 1 - j]? = some x := ⟨_, List.getElem?_eq_getElem (by omega)⟩
    refine X (nI x) 0 (fun τ Q g => ?_) (fun τ Q g hs k => ?_)
    · have gx := g.2 _ x hx
      rw [show (LF (σ.1 171) l np nk).length - 1 - ((LF (σ.1 171) l np nk).length - 1 - j) = j by omega] at gx
      rw [bPb_line_29, if_neg (nI_pos (by omega)), bPb_line_33, g.1, if_pos (nI_lt hj (by omega)), bPb_line_51, mOut_f (by omega) (by omega), nI_clamp (by omega), if_neg (by decide), show τ.1 64 j = nI x from gx, bPb_answer_0, tl_s, bPb_line_64]
    · have gx := g.2 _ x hx
      rw [show (LF (σ.1 171) l np nk).length - 1 - ((LF (σ.1 171) l np nk).length - 1 - j) = j by omega] at gx
      rw [bMo_line_29, g.1, Mo_isIn, tl_s, bMo_line_42, b2i_t ((isIn0 (by omega)).mpr hb'), if_neg i10, bMo_line_45, mOut_f (by omega) (by omega), nI_clamp (by omega), if_neg (by decide), gx, bMo_line_60]
      exact k _ qt_rf hs rfl
  · refine X (-1) (nI 8) (fun τ Q g => ?_) (fun τ Q g hs k => ?_)
    · have hb' : mOut b (LF (σ.1 171) l np nk).length = true := by simpa using hb
      have e : WP E (d + 5) mPb_line 44 [.ref 0, .int (nI l), .int b] [] τ Q = Q (some (.int (-1))) (sI τ 0 10 (nI 8)) := by
        simp only [bPb_line_0, bPb_line_8, bPb_line_11, bPb_line_16, bPb_line_17, bPb_line_29, bPb_line_33, bPb_line_44, bPb_line_50, bPb_line_51, bPb_line_64, bPb_refuse_0, tl_s, not_true_eq_false, not_false_eq_true, and_self, and_true, true_and, and_false, false_and, or_true, true_or, or_false, false_or, or_self, if_true, if_false, ite_self, eq_self, Bool.false_eq_true, Bool.true_eq_false]
      rw [bPb_line_29, bPb_line_33, g.1]
      by_cases h0 : b < 0
      · rw [if_pos h0, e]
      · rw [if_neg h0, if_neg (Int32.not_lt.mpr (((mOut_or (by omega)).mp hb').resolve_left h0)), e]
    · rw [bMo_line_29, g.1, Mo_isIn, tl_s, bMo_line_42, b2i_f (fun w => hb ((isIn0 (by omega)).mp w)), if_pos rfl]
      simp only [bMo_line_0, bMo_line_15, bMo_line_18, bMo_line_23, bMo_line_24, bMo_line_29, bMo_line_42, bMo_line_45, bMo_line_54, bMo_line_60, bMo_refuse_0, tl_s, not_true_eq_false, not_false_eq_true, and_self, and_true, true_and, and_false, false_and, or_true, true_or, or_false, false_or, or_self, if_true, if_false, ite_self, eq_self, Bool.false_eq_true, Bool.true_eq_false]
      exact k _ (by repeat' (first | exact qt_rf | assumption | refine qt_sI ?_ rfl | refine qt_sL ?_ rfl)) rfl rfl
