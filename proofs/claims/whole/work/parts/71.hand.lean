/-! make, letGo, pass, eat, pay -/
theorem STn_Cl {o k : Nat} (h : STn 10 o k = true) : SCl o k = true := by
  simp only [STn, SCl, Bool.or_eq_true, Bool.and_eq_true, decide_eq_true_eq] at h ⊢
  omega
theorem S171_Mo {o k : Nat} (h : S171 o k = true) : SMo o k = true := by
  have : o = 171 := by simp only [S171, Bool.and_eq_true, beq_iff_eq] at h; exact h.1
  subst this
  simp only [SMo, h, Bool.or_true, Bool.and_true]; rfl
theorem SQ_Mo {o k : Nat} (h : SQ o k = true) (ho : 166 ≤ o) : SMo o k = true := by simp only [SMo, h, ho, Bool.true_or, decide_true, Bool.and_self]
theorem mo0 {σ τ : mSt} (h : ∀ o, 166 ≤ o → τ.1 o = σ.1 o ∧ τ.2 o = σ.2 o) : (sI (sI τ 166 1 0) 166 0 0).1 171 = σ.1 171 := (h 171 (by omega)).1
theorem qt_mo0 {τ : mSt} : qt SMo τ (sI (sI τ 166 1 0) 166 0 0) := qt_sI (qt_sI qt_rf rfl) rfl
theorem mpt {E : mEn} {σ τ : mSt} {np : Nat} (c1 : σ.1 171 0 = nI np) (b1 : np ≤ 8) (h : ∀ o, 166 ≤ o → τ.1 o = σ.1 o ∧ τ.2 o = σ.2 o) (a : Int32) (d : Nat) (Q : mPost) : WP E (d + 1) mMo_isPersonAt 0 [.ref 166, .int a] [] (sI (sI τ 166 1 0) 166 0 0) Q = Q (some (.int (b2i (mOut a np = false)))) (sI (sI τ 166 1 0) 166 0 0) := Mo_isPersonAt (by rw [mo0 h]; exact c1) b1
theorem mlt {E : mEn} {σ τ : mSt} {nl : Nat} (c1 : σ.1 171 2 = nI nl) (b1 : nl ≤ 8) (h : ∀ o, 166 ≤ o → τ.1 o = σ.1 o ∧ τ.2 o = σ.2 o) (a : Int32) (d : Nat) (Q : mPost) : WP E (d + 1) mMo_isLoafAt 0 [.ref 166, .int a] [] (sI (sI τ 166 1 0) 166 0 0) Q = Q (some (.int (b2i (mOut a nl = false)))) (sI (sI τ 166 1 0) 166 0 0) := Mo_isLoafAt (by rw [mo0 h]; exact c1) b1
theorem mkt {E : mEn} {σ τ : mSt} {nk : Nat} (c1 : σ.1 171 3 = nI nk) (b1 : nk ≤ 40) (h : ∀ o, 166 ≤ o → τ.1 o = σ.1 o ∧ τ.2 o = σ.2 o) (a : Int32) (d : Nat) (Q : mPost) : WP E (d + 1) mMo_isPromiseAt 0 [.ref 166, .int a] [] (sI (sI τ 166 1 0) 166 0 0) Q = Q (some (.int (b2i (mOut a nk = false)))) (sI (sI τ 166 1 0) 166 0 0) := Mo_isPromiseAt (by rw [mo0 h]; exact c1) b1
theorem P_make {E : mEn} {d : Nat} {σ : mSt} {n l a b f : Int32} (hI : Inv σ) : pairI E (d + 3) mPb_make mMo_make [.ref 0, .int n, .int l, .int a, .int b, .int f] [.ref 166, .int n, .int l, .int a, .int b, .int f] σ := by
  obtain ⟨np, no, nl, nk, dy, hT⟩ := Inv_town hI
  obtain ⟨⟨b1, b2, b3, b4, b5⟩, ⟨t1, c1⟩, ⟨t2, c2⟩, ⟨t3, c3⟩, ⟨t4, c4⟩, ⟨t5, c5⟩, c6, gP, gO, gL, gB, gK, -⟩ := id hT
  have hq : ∀ τ : mSt, qt SQ σ τ → (sI (sI τ 166 1 0) 166 0 0).1 171 = σ.1 171 := fun τ q => funext fun k => (q 171 k rfl).1
  have mp := @mpq E σ np c1 b1
  have ml := @mlq E σ nl c3 b3
  have mk := @mkq E σ nk c4 b4
  by_cases ha : mOut l nl = false
  rotate_left
  · refine pairI_q hI (-1) (nI 2) (fun Q k => ?_) (fun τ q Q k => ?_)
    · simp only [bPb_make_0, bPb_make_8, bPb_make_11, bPb_make_19, bPb_make_22, bPb_make_31, bPb_make_34, bPb_make_39, bPb_make_40, bPb_make_45, bPb_make_51, bPb_make_56, bPb_make_64, bPb_make_70, bPb_make_75, bPb_make_76, bPb_make_86, bPb_make_89, bPb_make_95, bPb_make_96, bPb_make_104, bPb_make_107, bPb_make_113, bPb_make_114, bPb_make_129, bPb_make_132, Tw_hasPerson T10 t1 b1, Tw_hasLoaf T10 t3 b3, Pr_has T10 t4 b4, tl_s, bPb_refuse_0, b2i_f ha, b2i_T, b2i_F, i10, not_true_eq_false, not_false_eq_true, and_self, and_true, true_and, and_false, false_and, or_true, true_or, or_false, false_or, or_self, if_true, if_false, ite_self, eq_self, Bool.false_eq_true, Bool.true_eq_false]
      exact k _ (by repeat' (first | exact qt_rf | assumption | refine qt_sI ?_ rfl | refine qt_sL ?_ rfl)) rfl
    · simp only [bMo_make_0, bMo_make_15, bMo_make_18, bMo_make_23, bMo_make_26, bMo_make_32, bMo_make_35, bMo_make_40, bMo_make_41, bMo_make_50, bMo_make_53, bMo_make_63, bMo_make_66, bMo_make_72, bMo_make_77, bMo_make_78, bMo_make_89, bMo_make_95, bMo_make_96, bMo_make_101, bMo_make_104, bMo_make_110, bMo_make_113, bMo_make_124, mp τ q, ml τ q, mk τ q, tl_s, bMo_refuse_0, b2i_f ha, b2i_T, b2i_F, i10, not_true_eq_false, not_false_eq_true, and_self, and_true, true_and, and_false, false_and, or_true, true_or, or_false, false_or, or_self, if_true, if_false, ite_self, eq_self, Bool.false_eq_true, Bool.true_eq_false]
      exact k _ (by repeat' (first | exact qt_rf | assumption | refine qt_sI ?_ rfl | refine qt_sL ?_ rfl)) rfl rfl
  by_cases hb : mOut a np = false
  rotate_left
  · refine pairI_q hI (-1) (nI 2) (fun Q k => ?_) (fun τ q Q k => ?_)
    · simp only [bPb_make_0, bPb_make_8, bPb_make_11, bPb_make_19, bPb_make_22, bPb_make_31, bPb_make_34, bPb_make_39, bPb_make_40, bPb_make_45, bPb_make_51, bPb_make_56, bPb_make_64, bPb_make_70, bPb_make_75, bPb_make_76, bPb_make_86, bPb_make_89, bPb_make_95, bPb_make_96, bPb_make_104, bPb_make_107, bPb_make_113, bPb_make_114, bPb_make_129, bPb_make_132, Tw_hasPerson T10 t1 b1, Tw_hasLoaf T10 t3 b3, Pr_has T10 t4 b4, tl_s, bPb_refuse_0, b2i_t ha, b2i_f hb, b2i_T, b2i_F, i10, not_true_eq_false, not_false_eq_true, and_self, and_true, true_and, and_false, false_and, or_true, true_or, or_false, false_or, or_self, if_true, if_false, ite_self, eq_self, Bool.false_eq_true, Bool.true_eq_false]
      exact k _ (by repeat' (first | exact qt_rf | assumption | refine qt_sI ?_ rfl | refine qt_sL ?_ rfl)) rfl
    · simp only [bMo_make_0, bMo_make_15, bMo_make_18, bMo_make_23, bMo_make_26, bMo_make_32, bMo_make_35, bMo_make_40, bMo_make_41, bMo_make_50, bMo_make_53, bMo_make_63, bMo_make_66, bMo_make_72, bMo_make_77, bMo_make_78, bMo_make_89, bMo_make_95, bMo_make_96, bMo_make_101, bMo_make_104, bMo_make_110, bMo_make_113, bMo_make_124, mp τ q, ml τ q, mk τ q, tl_s, bMo_refuse_0, b2i_t ha, b2i_f hb, b2i_T, b2i_F, i10, not_true_eq_false, not_false_eq_true, and_self, and_true, true_and, and_false, false_and, or_true, true_or, or_false, false_or, or_self, if_true, if_false, ite_self, eq_self, Bool.false_eq_true, Bool.true_eq_false]
      exact k _ (by repeat' (first | exact qt_rf | assumption | refine qt_sI ?_ rfl | refine qt_sL ?_ rfl)) rfl rfl
  by_cases hc : mOut b np = false
  rotate_left
  · refine pairI_q hI (-1) (nI 2) (fun Q k => ?_) (fun τ q Q k => ?_)
    · simp only [bPb_make_0, bPb_make_8, bPb_make_11, bPb_make_19, bPb_make_22, bPb_make_31, bPb_make_34, bPb_make_39, bPb_make_40, bPb_make_45, bPb_make_51, bPb_make_56, bPb_make_64, bPb_make_70, bPb_make_75, bPb_make_76, bPb_make_86, bPb_make_89, bPb_make_95, bPb_make_96, bPb_make_104, bPb_make_107, bPb_make_113, bPb_make_114, bPb_make_129, bPb_make_132, Tw_hasPerson T10 t1 b1, Tw_hasLoaf T10 t3 b3, Pr_has T10 t4 b4, tl_s, bPb_refuse_0, b2i_t ha, b2i_t hb, b2i_f hc, b2i_T, b2i_F, i10, not_true_eq_false, not_false_eq_true, and_self, and_true, true_and, and_false, false_and, or_true, true_or, or_false, false_or, or_self, if_true, if_false, ite_self, eq_self, Bool.false_eq_true, Bool.true_eq_false]
      exact k _ (by repeat' (first | exact qt_rf | assumption | refine qt_sI ?_ rfl | refine qt_sL ?_ rfl)) rfl
    · simp only [bMo_make_0, bMo_make_15, bMo_make_18, bMo_make_23, bMo_make_26, bMo_make_32, bMo_make_35, bMo_make_40, bMo_make_41, bMo_make_50, bMo_make_53, bMo_make_63, bMo_make_66, bMo_make_72, bMo_make_77, bMo_make_78, bMo_make_89, bMo_make_95, bMo_make_96, bMo_make_101, bMo_make_104, bMo_make_110, bMo_make_113, bMo_make_124, mp τ q, ml τ q, mk τ q, tl_s, bMo_refuse_0, b2i_t ha, b2i_t hb, b2i_f hc, b2i_T, b2i_F, i10, not_true_eq_false, not_false_eq_true, and_self, and_true, true_and, and_false, false_and, or_true, true_or, or_false, false_or, or_self, if_true, if_false, ite_self, eq_self, Bool.false_eq_true, Bool.true_eq_false]
      exact k _ (by repeat' (first | exact qt_rf | assumption | refine qt_sI ?_ rfl | refine qt_sL ?_ rfl)) rfl rfl
  have X0 : ∀ Q : mPost, WP E (d + 3) mPb_make 0 [.ref 0, .int n, .int l, .int a, .int b, .int f] [] σ Q = WP E (d + 3) mPb_make 40 [.ref 0, .int n, .int l, .int a, .int b, .int f] [] σ Q := fun Q => by
    simp only [bPb_make_0, bPb_make_8, bPb_make_11, bPb_make_19, bPb_make_22, bPb_make_31, Tw_hasPerson T10 t1 b1, Tw_hasLoaf T10 t3 b3, Pr_has T10 t4 b4, tl_s, b2i_t ha, b2i_t hb, b2i_t hc, b2i_T, b2i_F, i10, not_true_eq_false, not_false_eq_true, and_self, and_true, true_and, and_false, false_and, or_true, true_or, or_false, false_or, or_self, if_true, if_false, ite_self, eq_self, Bool.false_eq_true, Bool.true_eq_false]
  have Y0 : ∀ τ : mSt, (∀ (a : Int32) (d : Nat) (Q : mPost), WP E (d + 1) mMo_isPersonAt 0 [.ref 166, .int a] [] (sI (sI τ 166 1 0) 166 0 0) Q = Q (some (.int (b2i (mOut a np = false)))) (sI (sI τ 166 1 0) 166 0 0)) → (∀ (a : Int32) (d : Nat) (Q : mPost), WP E (d + 1) mMo_isLoafAt 0 [.ref 166, .int a] [] (sI (sI τ 166 1 0) 166 0 0) Q = Q (some (.int (b2i (mOut a nl = false)))) (sI (sI τ 166 1 0) 166 0 0)) → ∀ Q : mPost, WP E (d + 3) mMo_make 0 [.ref 166, .int n, .int l, .int a, .int b, .int f] [] τ Q = WP E (d + 3) mMo_make 41 [.ref 166, .int n, .int l, .int a, .int b, .int f] [] (sI (sI τ 166 1 0) 166 0 0) Q := fun τ q1 q2 Q => by
    simp only [bMo_make_0, bMo_make_15, bMo_make_18, bMo_make_23, bMo_make_26, bMo_make_32, q1, q2, tl_s, b2i_t ha, b2i_t hb, b2i_t hc, b2i_T, b2i_F, i10, not_true_eq_false, not_false_eq_true, and_self, and_true, true_and, and_false, false_and, or_true, true_or, or_false, false_or, or_self, if_true, if_false, ite_self, eq_self, Bool.false_eq_true, Bool.true_eq_false]
  have R5 : ∀ Q : mPost, (∀ τ, qt SQ σ τ → τ.1 0 10 = nI 5 → Q (some (.int (-1))) τ) → ∀ n f : Int32, WP E (d + 3) mPb_make 70 [.ref 0, .int n, .int l, .int a, .int b, .int f] [] σ Q := fun Q k n f => by
    rw [bPb_make_70, bPb_refuse_0, tl_s, bPb_make_75]
    exact k _ (by repeat' (first | exact qt_rf | assumption | refine qt_sI ?_ rfl | refine qt_sL ?_ rfl)) rfl
  have S5 : ∀ (τ : mSt) (Q : mPost), (∀ υ, qt SQ τ υ → υ.1 166 0 = nI 5 → υ.1 0 10 = τ.1 0 10 → Q (some (.int (-1))) υ) → ∀ n f : Int32, WP E (d + 3) mMo_make 72 [.ref 166, .int n, .int l, .int a, .int b, .int f] [] (sI (sI τ 166 1 0) 166 0 0) Q := fun τ Q k n f => by
    rw [bMo_make_72, bMo_refuse_0, tl_s, bMo_make_77]
    exact k _ (by repeat' (first | exact qt_rf | assumption | refine qt_sI ?_ rfl | refine qt_sL ?_ rfl)) rfl rfl
  rcases sw_cs n 1 99 with ⟨n', n1, n2, rfl⟩ | hne
  rotate_left
  · refine pairI_q hI (-1) (nI 5) (fun Q k => ?_) (fun τ q Q k => ?_)
    · rw [X0, bPb_make_40, bPb_make_45, rngA (l' := 1) (h' := nI 99) (lo := 1) (hi := 99) rfl rfl (by omega) (by omega) hne]
      exact R5 Q k _ _
    · rw [Y0 τ (mp τ q) (ml τ q), bMo_make_41, Mo_isIn, tl_s, bMo_make_50, b2i_f (isIn_f (l6 := 1) (h6 := 99) (lo := 1) (hi := 99) rfl rfl (by omega) (by omega) hne), if_pos rfl]
      exact S5 τ Q k _ _
  rcases sw_cs f 0 999 with ⟨f', f1, f2, rfl⟩ | hne
  rotate_left
  · refine pairI_q hI (-1) (nI 5) (fun Q k => ?_) (fun τ q Q k => ?_)
    · rw [X0, bPb_make_40, bPb_make_45, rngB (l' := 1) (h' := nI 99) (lo := 1) (hi := 99) rfl rfl (by omega) n1 n2, bPb_make_51, bPb_make_56, rngA (l' := 0) (h' := nI 999) (lo := 0) (hi := 999) rfl rfl (by omega) (by omega) hne]
      exact R5 Q k _ _
    · rw [Y0 τ (mp τ q) (ml τ q), bMo_make_41, Mo_isIn, tl_s, bMo_make_50, b2i_t (isIn_t (l6 := 1) (h6 := 99) (lo := 1) (hi := 99) rfl rfl (by omega) n1 n2), if_neg i10, bMo_make_53, Mo_isIn, tl_s, bMo_make_63, b2i_f (isIn_f (l6 := 0) (h6 := 999) (lo := 0) (hi := 999) rfl rfl (by omega) (by omega) hne), if_pos rfl]
      exact S5 τ Q k _ _
  have X1 : ∀ Q : mPost, WP E (d + 3) mPb_make 0 [.ref 0, .int (nI n'), .int l, .int a, .int b, .int (nI f')] [] σ Q = WP E (d + 3) mPb_make 64 [.ref 0, .int (nI n'), .int l, .int a, .int b, .int (nI f')] [] σ Q := fun Q => by
    rw [X0, bPb_make_40, bPb_make_45, rngB (l' := 1) (h' := nI 99) (lo := 1) (hi := 99) rfl rfl (by omega) n1 n2, bPb_make_51, bPb_make_56, rngB (l' := 0) (h' := nI 999) (lo := 0) (hi := 999) rfl rfl (by omega) f1 f2]
  have Y1 : ∀ τ : mSt, (∀ (a : Int32) (d : Nat) (Q : mPost), WP E (d + 1) mMo_isPersonAt 0 [.ref 166, .int a] [] (sI (sI τ 166 1 0) 166 0 0) Q = Q (some (.int (b2i (mOut a np = false)))) (sI (sI τ 166 1 0) 166 0 0)) → (∀ (a : Int32) (d : Nat) (Q : mPost), WP E (d + 1) mMo_isLoafAt 0 [.ref 166, .int a] [] (sI (sI τ 166 1 0) 166 0 0) Q = Q (some (.int (b2i (mOut a nl = false)))) (sI (sI τ 166 1 0) 166 0 0)) → ∀ Q : mPost, WP E (d + 3) mMo_make 0 [.ref 166, .int (nI n'), .int l, .int a, .int b, .int (nI f')] [] τ Q = WP E (d + 3) mMo_make 66 [.ref 166, .int (nI n'), .int l, .int a, .int b, .int (nI f')] [] (sI (sI τ 166 1 0) 166 0 0) Q := fun τ q1 q2 Q => by
    rw [Y0 τ q1 q2, bMo_make_41, Mo_isIn, tl_s, bMo_make_50, b2i_t (isIn_t (l6 := 1) (h6 := 99) (lo := 1) (hi := 99) rfl rfl (by omega) n1 n2), if_neg i10, bMo_make_53, Mo_isIn, tl_s, bMo_make_63, b2i_t (isIn_t (l6 := 0) (h6 := 999) (lo := 0) (hi := 999) rfl rfl (by omega) f1 f2), if_neg i10]
  by_cases hab : a = b
  · refine pairI_q hI (-1) (nI 5) (fun Q k => ?_) (fun τ q Q k => ?_)
    · rw [X1, bPb_make_64, ite_nn hab]
      exact R5 Q k _ _
    · rw [Y1 τ (mp τ q) (ml τ q), bMo_make_66, ite_nn hab]
      exact S5 τ Q k _ _
  obtain ⟨l', hl, rfl⟩ := mOut_n ha
  obtain ⟨p, hp, rfl⟩ := mOut_n hb
  obtain ⟨x, hx, rfl⟩ := mOut_n hc
  by_cases hk : nk < 40
  rotate_left
  · have h40 : nk = 40 := by omega
    refine pairI_q hI (-1) (nI 7) (fun Q k => ?_) (fun τ q Q k => ?_)
    · rw [X1, bPb_make_64, if_pos hab, bPb_make_76]
      refine Eq.mpr (Pr_room T10 t4 b4) ?_
      rw [tl_s, bPb_make_86, b2i_f hk, ite_nn rfl, bPb_make_89, bPb_refuse_0, tl_s, bPb_make_95]
      exact k _ (by repeat' (first | exact qt_rf | assumption | refine qt_sI ?_ rfl | refine qt_sL ?_ rfl)) rfl
    · rw [Y1 τ (mp τ q) (ml τ q), bMo_make_66, if_pos hab, bMo_make_78, if_neg (by decide), hq τ q, c4, h40, ite_nn rfl, bMo_make_89, bMo_refuse_0, tl_s, bMo_make_95]
      exact k _ (by repeat' (first | exact qt_rf | assumption | refine qt_sI ?_ rfl | refine qt_sL ?_ rfl)) rfl rfl
  have n40 : ¬ nI nk = nI 40 := fun g => by have := (nI_eq (by omega) (by omega)).mp g; omega
  by_cases hbk : σ.1 171 (74 + l') < 0
  rotate_left
  · refine pairI_q hI (-1) (nI 9) (fun Q k => ?_) (fun τ q Q k => ?_)
    · rw [X1, bPb_make_64, if_pos hab, bPb_make_76]
      refine Eq.mpr (Pr_room T10 t4 b4) ?_
      rw [tl_s, bPb_make_86, b2i_t hk, if_pos i10, bPb_make_96, Tw_isBaked T10 t3 b3 hl (gL l' hl), tl_s, bPb_make_104, b2i_t hbk, if_neg i10, bPb_make_107, bPb_refuse_0, tl_s, bPb_make_113]
      exact k _ (by repeat' (first | exact qt_rf | assumption | refine qt_sI ?_ rfl | refine qt_sL ?_ rfl)) rfl
    · rw [Y1 τ (mp τ q) (ml τ q), bMo_make_66, if_pos hab, bMo_make_78, if_neg (by decide), hq τ q, c4, if_pos n40, bMo_make_96, Mo_isBaked (show l' < 8 by omega), tl_s, bMo_make_101, hq τ q, b2i_t hbk, if_neg i10, bMo_make_104, bMo_refuse_0, tl_s, bMo_make_110, bMo_make_124]
      exact k _ (by repeat' (first | exact qt_rf | assumption | refine qt_sI ?_ rfl | refine qt_sL ?_ rfl)) rfl rfl
  have hpx : p ≠ x := fun e => hab (by rw [e])
  refine pairI_t hI (nI nk) (mkF (σ.1 171) nk (nI n') (nI l') p x (nI f')) (np := np) (no := no) (nl := nl) (nk := nk + 1) (dy := dy) (fun Q k => ?_) (fun τ hτ Q k => ?_)
  · rw [X1, bPb_make_64, if_pos hab, bPb_make_76]
    refine Eq.mpr (Pr_room T10 t4 b4) ?_
    rw [tl_s, bPb_make_86, b2i_t hk, if_pos i10, bPb_make_96, Tw_isBaked T10 t3 b3 hl (gL l' hl), tl_s, bPb_make_104, b2i_f (fun g => g hbk), if_pos rfl, bPb_make_114]
    refine Tw_handOn T10 hT hk n1 n2 hl hp hx hpx f2 (fun υ q g h => ?_)
    rw [tl_s, bPb_make_129, bPb_answer_0, tl_s, bPb_make_132]
    exact k _ (qt_mono q (fun o k => STn_Cl)) g h
  · rw [Y1 τ (fun a d Q => mpt c1 b1 hτ a d Q) (fun a d Q => mlt c3 b3 hτ a d Q), bMo_make_66, if_pos hab, bMo_make_78, if_neg (by decide), mo0 hτ, c4, if_pos n40, bMo_make_96, Mo_isBaked (show l' < 8 by omega), tl_s, bMo_make_101, mo0 hτ, b2i_f (fun g => g hbk), if_pos rfl, bMo_make_113]
    refine Mo_makes (mo0 hτ) c4 hk (by omega) (by omega) (fun υ q h => ?_)
    rw [tl_s, bMo_make_124]
    exact k _ (qt_tr qt_mo0 (qt_mono q (fun o k => S171_Mo))) h ((q 166 0 rfl).1)
theorem P_letGo {E : mEn} {d : Nat} {σ : mSt} {a : Int32} (hI : Inv σ) : pairI E (d + 3) mPb_letGo mMo_letGo [.ref 0, .int a] [.ref 166, .int a] σ := by
  obtain ⟨np, no, nl, nk, dy, hT⟩ := Inv_town hI
  obtain ⟨⟨b1, b2, b3, b4, b5⟩, ⟨t1, c1⟩, ⟨t2, c2⟩, ⟨t3, c3⟩, ⟨t4, c4⟩, ⟨t5, c5⟩, c6, gP, gO, gL, gB, gK, -⟩ := id hT
  have hq : ∀ τ : mSt, qt SQ σ τ → (sI (sI τ 166 1 0) 166 0 0).1 171 = σ.1 171 := fun τ q => funext fun k => (q 171 k rfl).1
  have mp := @mpq E σ np c1 b1
  have ml := @mlq E σ nl c3 b3
  have mk := @mkq E σ nk c4 b4
  by_cases ha : mOut a nk = false
  rotate_left
  · refine pairI_q hI 0 (nI 2) (fun Q k => ?_) (fun τ q Q k => ?_)
    · simp only [bPb_letGo_0, bPb_letGo_11, bPb_letGo_14, bPb_letGo_19, bPb_letGo_20, bPb_letGo_28, bPb_letGo_31, bPb_letGo_35, bPb_letGo_38, bPb_letGo_44, Tw_hasPerson T10 t1 b1, Tw_hasLoaf T10 t3 b3, Pr_has T10 t4 b4, tl_s, bPb_deny_0, b2i_f ha, b2i_T, b2i_F, i10, not_true_eq_false, not_false_eq_true, and_self, and_true, true_and, and_false, false_and, or_true, true_or, or_false, false_or, or_self, if_true, if_false, ite_self, eq_self, Bool.false_eq_true, Bool.true_eq_false]
      exact k _ (by repeat' (first | exact qt_rf | assumption | refine qt_sI ?_ rfl | refine qt_sL ?_ rfl)) rfl
    · simp only [bMo_letGo_0, bMo_letGo_15, bMo_letGo_18, bMo_letGo_23, bMo_letGo_24, bMo_letGo_29, bMo_letGo_32, bMo_letGo_38, bMo_letGo_41, bMo_letGo_45, bMo_letGo_46, mp τ q, ml τ q, mk τ q, tl_s, bMo_no_0, b2i_f ha, b2i_T, b2i_F, i10, not_true_eq_false, not_false_eq_true, and_self, and_true, true_and, and_false, false_and, or_true, true_or, or_false, false_or, or_self, if_true, if_false, ite_self, eq_self, Bool.false_eq_true, Bool.true_eq_false]
      exact k _ (by repeat' (first | exact qt_rf | assumption | refine qt_sI ?_ rfl | refine qt_sL ?_ rfl)) rfl rfl
  have ha' := ha
  obtain ⟨x, hx, rfl⟩ := mOut_n ha
  have X0 : ∀ Q : mPost, WP E (d + 3) mPb_letGo 0 [.ref 0, .int (nI x)] [] σ Q = WP E (d + 3) mPb_letGo 20 [.ref 0, .int (nI x)] [] σ Q := fun Q => by
    simp only [bPb_letGo_0, bPb_letGo_11, Tw_hasPerson T10 t1 b1, Tw_hasLoaf T10 t3 b3, Pr_has T10 t4 b4, tl_s, b2i_t ha', b2i_T, b2i_F, i10, not_true_eq_false, not_false_eq_true, and_self, and_true, true_and, and_false, false_and, or_true, true_or, or_false, false_or, or_self, if_true, if_false, ite_self, eq_self, Bool.false_eq_true, Bool.true_eq_false]
  by_cases hb : brOk (σ.1 171) nk x
  rotate_left
  · refine pairI_q hI 0 (nI 9) (fun Q k => ?_) (fun τ q Q k => ?_)
    · rw [X0, bPb_letGo_20]
      refine Tw_release T10 hT (by omega) (fun g => absurd g hb) (fun _ => ?_)
      rw [tl_s, bPb_letGo_28, if_pos rfl, bPb_letGo_38, bPb_deny_0, tl_s, bPb_letGo_44 (Or.inl rfl)]
      exact k _ (by repeat' (first | exact qt_rf | assumption | refine qt_sI ?_ rfl | refine qt_sL ?_ rfl)) rfl
    · rw [bMo_letGo_0, mk τ q, tl_s, bMo_letGo_15, b2i_t ha', if_pos i10, bMo_letGo_24]
      refine Mo_breaks hT (hq τ q) (by omega) (fun g => absurd g hb) (fun _ => ?_)
      rw [tl_s, bMo_letGo_29, ite_nn rfl, bMo_letGo_32, bMo_no_0, tl_s, bMo_letGo_38, if_pos rfl, bMo_letGo_45, bMo_letGo_46 (Or.inl rfl)]
      exact k _ (by repeat' (first | exact qt_rf | assumption | refine qt_sI ?_ rfl | refine qt_sL ?_ rfl)) rfl rfl
  refine pairI_t hI 1 (brG (σ.1 171) x) (np := np) (no := no) (nl := nl) (nk := nk) (dy := dy) (fun Q k => ?_) (fun τ hτ Q k => ?_)
  · rw [X0, bPb_letGo_20]
    refine Tw_release T10 hT (by omega) (fun _ υ q g h => ?_) (fun g => absurd hb g)
    rw [tl_s, bPb_letGo_28, if_neg i10, bPb_letGo_31, bPb_grant_0, tl_s, bPb_letGo_35, bPb_letGo_44 (Or.inr rfl)]
    exact k _ (qt_mono q (fun o k => STn_Cl)) g h
  · rw [bMo_letGo_0, mkt c4 b4 hτ, tl_s, bMo_letGo_15, b2i_t ha', if_pos i10, bMo_letGo_24]
    refine Mo_breaks hT (mo0 hτ) (by omega) (fun _ υ q h => ?_) (fun g => absurd hb g)
    rw [tl_s, bMo_letGo_29, if_pos i10, bMo_letGo_41, bMo_letGo_46 (Or.inr rfl)]
    exact k _ (qt_tr qt_mo0 (qt_mono q (fun o k => S171_Mo))) h ((q 166 0 rfl).1)
theorem P_eat {E : mEn} {d : Nat} {σ : mSt} {a n : Int32} (hI : Inv σ) : pairI E (d + 3) mPb_eat mMo_eat [.ref 0, .int a, .int n] [.ref 166, .int a, .int n] σ := by
  obtain ⟨np, no, nl, nk, dy, hT⟩ := Inv_town hI
  obtain ⟨⟨b1, b2, b3, b4, b5⟩, ⟨t1, c1⟩, ⟨t2, c2⟩, ⟨t3, c3⟩, ⟨t4, c4⟩, ⟨t5, c5⟩, c6, gP, gO, gL, gB, gK, -⟩ := id hT
  have hq : ∀ τ : mSt, qt SQ σ τ → (sI (sI τ 166 1 0) 166 0 0).1 171 = σ.1 171 := fun τ q => funext fun k => (q 171 k rfl).1
  have mp := @mpq E σ np c1 b1
  have ml := @mlq E σ nl c3 b3
  have mk := @mkq E σ nk c4 b4
  by_cases ha : mOut a np = false
  rotate_left
  · refine pairI_q hI (-1) (nI 2) (fun Q k => ?_) (fun τ q Q k => ?_)
    · simp only [bPb_eat_0, bPb_eat_8, bPb_eat_11, bPb_eat_16, bPb_eat_17, bPb_eat_22, bPb_eat_28, bPb_eat_33, bPb_eat_34, bPb_eat_44, bPb_eat_47, Tw_hasPerson T10 t1 b1, Tw_hasLoaf T10 t3 b3, Pr_has T10 t4 b4, tl_s, bPb_refuse_0, b2i_f ha, b2i_T, b2i_F, i10, not_true_eq_false, not_false_eq_true, and_self, and_true, true_and, and_false, false_and, or_true, true_or, or_false, false_or, or_self, if_true, if_false, ite_self, eq_self, Bool.false_eq_true, Bool.true_eq_false]
      exact k _ (by repeat' (first | exact qt_rf | assumption | refine qt_sI ?_ rfl | refine qt_sL ?_ rfl)) rfl
    · simp only [bMo_eat_0, bMo_eat_15, bMo_eat_18, bMo_eat_23, bMo_eat_24, bMo_eat_33, bMo_eat_36, bMo_eat_42, bMo_eat_45, bMo_eat_50, mp τ q, ml τ q, mk τ q, tl_s, bMo_refuse_0, b2i_f ha, b2i_T, b2i_F, i10, not_true_eq_false, not_false_eq_true, and_self, and_true, true_and, and_false, false_and, or_true, true_or, or_false, false_or, or_self, if_true, if_false, ite_self, eq_self, Bool.false_eq_true, Bool.true_eq_false]
      exact k _ (by repeat' (first | exact qt_rf | assumption | refine qt_sI ?_ rfl | refine qt_sL ?_ rfl)) rfl rfl
  have ha' := ha
  obtain ⟨x, hx, rfl⟩ := mOut_n ha
  rcases sw_cs n 1 99 with ⟨n', n1, n2, rfl⟩ | hne
  rotate_left
  · refine pairI_q hI (-1) (nI 5) (fun Q k => ?_) (fun τ q Q k => ?_)
    · rw [bPb_eat_0, Tw_hasPerson T10 t1 b1, tl_s, bPb_eat_8, b2i_t ha', if_pos i10, bPb_eat_17, bPb_eat_22, rngC (l' := 1) (h' := nI 99) (lo := 1) (hi := 99) rfl rfl (by omega) (by omega) hne, bPb_eat_28, bPb_refuse_0, tl_s, bPb_eat_33]
      exact k _ (by repeat' (first | exact qt_rf | assumption | refine qt_sI ?_ rfl | refine qt_sL ?_ rfl)) rfl
    · rw [bMo_eat_0, mp τ q, tl_s, bMo_eat_15, b2i_t ha', if_pos i10, bMo_eat_24, Mo_isIn, tl_s, bMo_eat_33, b2i_f (isIn_f (l6 := 1) (h6 := 99) (lo := 1) (hi := 99) rfl rfl (by omega) (by omega) hne), if_pos rfl, bMo_eat_45, bMo_refuse_0, tl_s, bMo_eat_50]
      exact k _ (by repeat' (first | exact qt_rf | assumption | refine qt_sI ?_ rfl | refine qt_sL ?_ rfl)) rfl rfl
  refine pairI_t hI (eatM (σ.1 171) x (nI n')) (eatF (σ.1 171) x (nI n')) (np := np) (no := no) (nl := nl) (nk := nk) (dy := dy) (fun Q k => ?_) (fun τ hτ Q k => ?_)
  · rw [bPb_eat_0, Tw_hasPerson T10 t1 b1, tl_s, bPb_eat_8, b2i_t ha', if_pos i10, bPb_eat_17, bPb_eat_22, rngD (l' := 1) (h' := nI 99) (lo := 1) (hi := 99) rfl rfl (by omega) n1 n2, bPb_eat_34]
    refine Tw_feast T10 hT hx (fun υ q g h => ?_)
    rw [tl_s, bPb_eat_44, bPb_answer_0, tl_s, bPb_eat_47]
    exact k _ (qt_mono q (fun o k => STn_Cl)) g h
  · rw [bMo_eat_0, mpt c1 b1 hτ, tl_s, bMo_eat_15, b2i_t ha', if_pos i10, bMo_eat_24, Mo_isIn, tl_s, bMo_eat_33, b2i_t (isIn_t (l6 := 1) (h6 := 99) (lo := 1) (hi := 99) rfl rfl (by omega) n1 n2), if_neg i10, bMo_eat_36]
    refine Mo_eats (mo0 hτ) (by omega) (fun υ q h => ?_)
    rw [tl_s, bMo_eat_42, bMo_eat_50]
    exact k _ (qt_tr qt_mo0 (qt_mono q (fun o k => S171_Mo))) h ((q 166 0 rfl).1)
theorem P_pay {E : mEn} {d : Nat} {σ : mSt} {a b n : Int32} (hI : Inv σ) : pairI E (d + 3) mPb_pay mMo_pay [.ref 0, .int a, .int b, .int n] [.ref 166, .int a, .int b, .int n] σ := by
  obtain ⟨np, no, nl, nk, dy, hT⟩ := Inv_town hI
  obtain ⟨⟨b1, b2, b3, b4, b5⟩, ⟨t1, c1⟩, ⟨t2, c2⟩, ⟨t3, c3⟩, ⟨t4, c4⟩, ⟨t5, c5⟩, c6, gP, gO, gL, gB, gK, -⟩ := id hT
  have hq : ∀ τ : mSt, qt SQ σ τ → (sI (sI τ 166 1 0) 166 0 0).1 171 = σ.1 171 := fun τ q => funext fun k => (q 171 k rfl).1
  have mp := @mpq E σ np c1 b1
  have ml := @mlq E σ nl c3 b3
  have mk := @mkq E σ nk c4 b4
  by_cases ha : mOut a np = false
  rotate_left
  · refine pairI_q hI 0 (nI 2) (fun Q k => ?_) (fun τ q Q k => ?_)
    · simp only [bPb_pay_0, bPb_pay_8, bPb_pay_11, bPb_pay_19, bPb_pay_22, bPb_pay_27, bPb_pay_28, bPb_pay_33, bPb_pay_40, bPb_pay_45, bPb_pay_50, bPb_pay_51, bPb_pay_61, bPb_pay_64, bPb_pay_68, bPb_pay_71, bPb_pay_77, Tw_hasPerson T10 t1 b1, Tw_hasLoaf T10 t3 b3, Pr_has T10 t4 b4, tl_s, bPb_deny_0, b2i_f ha, b2i_T, b2i_F, i10, not_true_eq_false, not_false_eq_true, and_self, and_true, true_and, and_false, false_and, or_true, true_or, or_false, false_or, or_self, if_true, if_false, ite_self, eq_self, Bool.false_eq_true, Bool.true_eq_false]
      exact k _ (by repeat' (first | exact qt_rf | assumption | refine qt_sI ?_ rfl | refine qt_sL ?_ rfl)) rfl
    · simp only [bMo_pay_0, bMo_pay_15, bMo_pay_18, bMo_pay_23, bMo_pay_26, bMo_pay_31, bMo_pay_32, bMo_pay_37, bMo_pay_46, bMo_pay_49, bMo_pay_54, bMo_pay_55, bMo_pay_62, bMo_pay_65, bMo_pay_71, bMo_pay_74, bMo_pay_78, bMo_pay_79, mp τ q, ml τ q, mk τ q, tl_s, bMo_no_0, b2i_f ha, b2i_T, b2i_F, i10, not_true_eq_false, not_false_eq_true, and_self, and_true, true_and, and_false, false_and, or_true, true_or, or_false, false_or, or_self, if_true, if_false, ite_self, eq_self, Bool.false_eq_true, Bool.true_eq_false]
      exact k _ (by repeat' (first | exact qt_rf | assumption | refine qt_sI ?_ rfl | refine qt_sL ?_ rfl)) rfl rfl
  by_cases hb : mOut b np = false
  rotate_left
  · refine pairI_q hI 0 (nI 2) (fun Q k => ?_) (fun τ q Q k => ?_)
    · simp only [bPb_pay_0, bPb_pay_8, bPb_pay_11, bPb_pay_19, bPb_pay_22, bPb_pay_27, bPb_pay_28, bPb_pay_33, bPb_pay_40, bPb_pay_45, bPb_pay_50, bPb_pay_51, bPb_pay_61, bPb_pay_64, bPb_pay_68, bPb_pay_71, bPb_pay_77, Tw_hasPerson T10 t1 b1, Tw_hasLoaf T10 t3 b3, Pr_has T10 t4 b4, tl_s, bPb_deny_0, b2i_t ha, b2i_f hb, b2i_T, b2i_F, i10, not_true_eq_false, not_false_eq_true, and_self, and_true, true_and, and_false, false_and, or_true, true_or, or_false, false_or, or_self, if_true, if_false, ite_self, eq_self, Bool.false_eq_true, Bool.true_eq_false]
      exact k _ (by repeat' (first | exact qt_rf | assumption | refine qt_sI ?_ rfl | refine qt_sL ?_ rfl)) rfl
    · simp only [bMo_pay_0, bMo_pay_15, bMo_pay_18, bMo_pay_23, bMo_pay_26, bMo_pay_31, bMo_pay_32, bMo_pay_37, bMo_pay_46, bMo_pay_49, bMo_pay_54, bMo_pay_55, bMo_pay_62, bMo_pay_65, bMo_pay_71, bMo_pay_74, bMo_pay_78, bMo_pay_79, mp τ q, ml τ q, mk τ q, tl_s, bMo_no_0, b2i_t ha, b2i_f hb, b2i_T, b2i_F, i10, not_true_eq_false, not_false_eq_true, and_self, and_true, true_and, and_false, false_and, or_true, true_or, or_false, false_or, or_self, if_true, if_false, ite_self, eq_self, Bool.false_eq_true, Bool.true_eq_false]
      exact k _ (by repeat' (first | exact qt_rf | assumption | refine qt_sI ?_ rfl | refine qt_sL ?_ rfl)) rfl rfl
  have X0 : ∀ Q : mPost, WP E (d + 3) mPb_pay 0 [.ref 0, .int a, .int b, .int n] [] σ Q = WP E (d + 3) mPb_pay 28 [.ref 0, .int a, .int b, .int n] [] σ Q := fun Q => by
    simp only [bPb_pay_0, bPb_pay_8, bPb_pay_11, bPb_pay_19, Tw_hasPerson T10 t1 b1, Tw_hasLoaf T10 t3 b3, Pr_has T10 t4 b4, tl_s, b2i_t ha, b2i_t hb, b2i_T, b2i_F, i10, not_true_eq_false, not_false_eq_true, and_self, and_true, true_and, and_false, false_and, or_true, true_or, or_false, false_or, or_self, if_true, if_false, ite_self, eq_self, Bool.false_eq_true, Bool.true_eq_false]
  have Y0 : ∀ τ : mSt, (∀ (a : Int32) (d : Nat) (Q : mPost), WP E (d + 1) mMo_isPersonAt 0 [.ref 166, .int a] [] (sI (sI τ 166 1 0) 166 0 0) Q = Q (some (.int (b2i (mOut a np = false)))) (sI (sI τ 166 1 0) 166 0 0)) → ∀ Q : mPost, WP E (d + 3) mMo_pay 0 [.ref 166, .int a, .int b, .int n] [] τ Q = WP E (d + 3) mMo_pay 32 [.ref 166, .int a, .int b, .int n] [] (sI (sI τ 166 1 0) 166 0 0) Q := fun τ q1 Q => by
    simp only [bMo_pay_0, bMo_pay_15, bMo_pay_18, bMo_pay_23, q1, tl_s, b2i_t ha, b2i_t hb, b2i_T, b2i_F, i10, not_true_eq_false, not_false_eq_true, and_self, and_true, true_and, and_false, false_and, or_true, true_or, or_false, false_or, or_self, if_true, if_false, ite_self, eq_self, Bool.false_eq_true, Bool.true_eq_false]
  have R5 : ∀ Q : mPost, (∀ τ, qt SQ σ τ → τ.1 0 10 = nI 5 → Q (some (.int 0)) τ) → ∀ n : Int32, WP E (d + 3) mPb_pay 45 [.ref 0, .int a, .int b, .int n] [] σ Q := fun Q k n => by
    rw [bPb_pay_45, bPb_deny_0, tl_s, bPb_pay_50 (Or.inl rfl)]
    exact k _ (by repeat' (first | exact qt_rf | assumption | refine qt_sI ?_ rfl | refine qt_sL ?_ rfl)) rfl
  have S5 : ∀ (τ : mSt) (Q : mPost), (∀ υ, qt SQ τ υ → υ.1 166 0 = nI 5 → υ.1 0 10 = τ.1 0 10 → Q (some (.int 0)) υ) → ∀ n : Int32, WP E (d + 3) mMo_pay 49 [.ref 166, .int a, .int b, .int n] [] (sI (sI τ 166 1 0) 166 0 0) Q := fun τ Q k n => by
    rw [bMo_pay_49, bMo_no_0, tl_s, bMo_pay_54 (Or.inl rfl)]
    exact k _ (by repeat' (first | exact qt_rf | assumption | refine qt_sI ?_ rfl | refine qt_sL ?_ rfl)) rfl rfl
  by_cases hab : a = b
  · refine pairI_q hI 0 (nI 5) (fun Q k => ?_) (fun τ q Q k => ?_)
    · rw [X0, bPb_pay_28, bPb_pay_33, bPb_pay_40, ite_nn hab, ite_self, ite_self]
      exact R5 Q k _
    · rw [Y0 τ (mp τ q), bMo_pay_32, if_pos hab]
      exact S5 τ Q k _
  rcases sw_cs n 1 999 with ⟨n', n1, n2, rfl⟩ | hne
  rotate_left
  · refine pairI_q hI 0 (nI 5) (fun Q k => ?_) (fun τ q Q k => ?_)
    · rw [X0, bPb_pay_28, bPb_pay_33, rngA (l' := 1) (h' := nI 999) (lo := 1) (hi := 999) rfl rfl (by omega) (by omega) hne]
      exact R5 Q k _
    · rw [Y0 τ (mp τ q), bMo_pay_32, if_neg hab, bMo_pay_37, Mo_isIn, tl_s, bMo_pay_46, b2i_f (isIn_f (l6 := 1) (h6 := 999) (lo := 1) (hi := 999) rfl rfl (by omega) (by omega) hne), ite_nn rfl]
      exact S5 τ Q k _
  obtain ⟨x, hx, rfl⟩ := mOut_n ha
  obtain ⟨y, hy, rfl⟩ := mOut_n hb
  by_cases z : x ≠ y ∧ nI n' ≤ σ.1 171 (6 + x)
  rotate_left
  · refine pairI_q hI 0 (nI 9) (fun Q k => ?_) (fun τ q Q k => ?_)
    · rw [X0, bPb_pay_28, bPb_pay_33, rngB (l' := 1) (h' := nI 999) (lo := 1) (hi := 999) rfl rfl (by omega) n1 n2, bPb_pay_40, if_pos hab, bPb_pay_51]
      refine Tw_handMoney T10 hT hx hy (fun g => absurd g z) (fun _ => ?_)
      rw [tl_s, bPb_pay_61, if_pos rfl, bPb_pay_71, bPb_deny_0, tl_s, bPb_pay_77 (Or.inl rfl)]
      exact k _ (by repeat' (first | exact qt_rf | assumption | refine qt_sI ?_ rfl | refine qt_sL ?_ rfl)) rfl
    · rw [Y0 τ (mp τ q), bMo_pay_32, if_neg hab, bMo_pay_37, Mo_isIn, tl_s, bMo_pay_46, b2i_t (isIn_t (l6 := 1) (h6 := 999) (lo := 1) (hi := 999) rfl rfl (by omega) n1 n2), if_pos i10, bMo_pay_55]
      refine Mo_pays (hq τ q) (by omega) (by omega) (fun g => absurd g z) (fun _ => ?_)
      rw [tl_s, bMo_pay_62, ite_nn rfl, bMo_pay_65, bMo_no_0, tl_s, bMo_pay_71, if_pos rfl, bMo_pay_78, bMo_pay_79 (Or.inl rfl)]
      exact k _ (by repeat' (first | exact qt_rf | assumption | refine qt_sI ?_ rfl | refine qt_sL ?_ rfl)) rfl rfl
  refine pairI_t hI 1 (payF (σ.1 171) x y (nI n')) (np := np) (no := no) (nl := nl) (nk := nk) (dy := dy) (fun Q k => ?_) (fun τ hτ Q k => ?_)
  · rw [X0, bPb_pay_28, bPb_pay_33, rngB (l' := 1) (h' := nI 999) (lo := 1) (hi := 999) rfl rfl (by omega) n1 n2, bPb_pay_40, if_pos hab, bPb_pay_51]
    refine Tw_handMoney T10 hT hx hy (fun _ υ q g h => ?_) (fun g => absurd z g)
    rw [tl_s, bPb_pay_61, if_neg i10, bPb_pay_64, bPb_grant_0, tl_s, bPb_pay_68, bPb_pay_77 (Or.inr rfl)]
    exact k _ (qt_mono q (fun o k => STn_Cl)) g h
  · rw [Y0 τ (fun a d Q => mpt c1 b1 hτ a d Q), bMo_pay_32, if_neg hab, bMo_pay_37, Mo_isIn, tl_s, bMo_pay_46, b2i_t (isIn_t (l6 := 1) (h6 := 999) (lo := 1) (hi := 999) rfl rfl (by omega) n1 n2), if_pos i10, bMo_pay_55]
    refine Mo_pays (mo0 hτ) (by omega) (by omega) (fun _ υ q h => ?_) (fun g => absurd z g)
    rw [tl_s, bMo_pay_62, if_pos i10, bMo_pay_74, bMo_pay_79 (Or.inr rfl)]
    exact k _ (qt_tr qt_mo0 (qt_mono q (fun o k => S171_Mo))) h ((q 166 0 rfl).1)
def passF (c : Nat → Int32) (n : Int32) : Nat → Int32 := upd (upd c 4 (c 4 + n)) 5 0
theorem P_pass {E : mEn} {d : Nat} {σ : mSt} {n : Int32} (hI : Inv σ) : pairI E (d + 3) mPb_pass mMo_pass [.ref 0, .int n] [.ref 166, .int n] σ := by
  obtain ⟨np, no, nl, nk, dy, hT⟩ := Inv_town hI
  obtain ⟨⟨b1, b2, b3, b4, b5⟩, ⟨t1, c1⟩, ⟨t2, c2⟩, ⟨t3, c3⟩, ⟨t4, c4⟩, ⟨t5, c5⟩, c6, gP, gO, gL, gB, gK, -⟩ := id hT
  have hq : ∀ τ : mSt, qt SQ σ τ → (sI (sI τ 166 1 0) 166 0 0).1 171 = σ.1 171 := fun τ q => funext fun k => (q 171 k rfl).1
  have mp := @mpq E σ np c1 b1
  have ml := @mlq E σ nl c3 b3
  have mk := @mkq E σ nk c4 b4
  rcases sw_cs n 1 9 with ⟨n', n1, n2, rfl⟩ | hne
  rotate_left
  · refine pairI_q hI (-1) (nI 5) (fun Q k => ?_) (fun τ q Q k => ?_)
    · rw [bPb_pass_0, bPb_pass_5, rngC (l' := 1) (h' := nI 9) (lo := 1) (hi := 9) rfl rfl (by omega) (by omega) hne, bPb_pass_11, bPb_refuse_0, tl_s, bPb_pass_16]
      exact k _ (by repeat' (first | exact qt_rf | assumption | refine qt_sI ?_ rfl | refine qt_sL ?_ rfl)) rfl
    · rw [bMo_pass_0, Mo_isIn, tl_s, bMo_pass_19, b2i_f (isIn_f (l6 := 1) (h6 := 9) (lo := 1) (hi := 9) rfl rfl (by omega) (by omega) hne), ite_nn rfl, bMo_pass_22, bMo_refuse_0, tl_s, bMo_pass_27]
      exact k _ (by repeat' (first | exact qt_rf | assumption | refine qt_sI ?_ rfl | refine qt_sL ?_ rfl)) rfl rfl
  by_cases z : dy + n' ≤ 99
  rotate_left
  · have z' : ¬ nI (dy + n') ≤ nI 99 := nI_ge (by omega) (by omega)
    refine pairI_q hI (-1) (nI 7) (fun Q k => ?_) (fun τ q Q k => ?_)
    · rw [bPb_pass_0, bPb_pass_5, rngD (l' := 1) (h' := nI 9) (lo := 1) (hi := 9) rfl rfl (by omega) n1 n2, bPb_pass_17, t5, nI_add, if_neg z', bPb_pass_31, bPb_refuse_0, tl_s, bPb_pass_37]
      exact k _ (by repeat' (first | exact qt_rf | assumption | refine qt_sI ?_ rfl | refine qt_sL ?_ rfl)) rfl
    · rw [bMo_pass_0, Mo_isIn, tl_s, bMo_pass_19, b2i_t (isIn_t (l6 := 1) (h6 := 9) (lo := 1) (hi := 9) rfl rfl (by omega) n1 n2), if_pos i10, bMo_pass_28, if_neg (by decide), hq τ q, c5, nI_add, if_neg z', bMo_pass_41, bMo_refuse_0, tl_s, bMo_pass_47]
      exact k _ (by repeat' (first | exact qt_rf | assumption | refine qt_sI ?_ rfl | refine qt_sL ?_ rfl)) rfl rfl
  have z' : nI (dy + n') ≤ nI 99 := nI_le z (by omega)
  refine pairI_t hI (nI (dy + n')) (passF (σ.1 171) (nI n')) (np := np) (no := no) (nl := nl) (nk := nk) (dy := dy + n') (fun Q k => ?_) (fun τ hτ Q k => ?_)
  · rw [bPb_pass_0, bPb_pass_5, rngD (l' := 1) (h' := nI 9) (lo := 1) (hi := 9) rfl rfl (by omega) n1 n2, bPb_pass_17, t5, nI_add, if_pos z', bPb_pass_38, t5, nI_add, bPb_answer_0, tl_s, bPb_pass_70]
    refine k _ (qt_sI (qt_sI qt_rf rfl) rfl) (GB_e (fun k => rfl)) ?_
    refine TRel_c hT b4 z ⟨rfl, rfl, rfl⟩ ⟨rfl, rfl, rfl⟩ ⟨t4, c4⟩ ⟨rfl, ?_⟩ ⟨rfl, 0, by omega, rfl⟩ (fun x hx => by simp (disch := omega) only [passF, upd_n, sI_n]; exact gP x hx) (fun x hx => ⟨rfl, ?_⟩) (fun x hx => LRel_c (gL x hx) (fun j j1 j2 => ?_) Iff.rfl (fun i i1 i2 i3 => ?_) (by omega)) gB (fun x hx => PRel_c (gK x hx) (fun j j1 j2 => ?_) (fun j hj => ?_)) (fun k _ => ⟨rfl, rfl⟩) (fun k _ _ => rfl) (fun k _ => rfl) (fun i i1 i2 => ?_)
    · show σ.1 171 4 + nI n' = _
      rw [c5, nI_add]
    · simp (disch := omega) only [passF, upd_n]
    · simp (disch := omega) only [sI_n]
    · simp (disch := omega) only [passF, upd_n]
    · simp (disch := omega) only [sI_n]
    · simp (disch := omega) only [passF, upd_n]
    · simp (disch := omega) only [passF, upd_n]
  · rw [bMo_pass_0, Mo_isIn, tl_s, bMo_pass_19, b2i_t (isIn_t (l6 := 1) (h6 := 9) (lo := 1) (hi := 9) rfl rfl (by omega) n1 n2), if_pos i10, bMo_pass_28, if_neg (by decide), mo0 hτ, c5, nI_add, if_pos z', bMo_pass_48, if_neg (by decide), if_neg (by decide), if_neg (by decide), if_neg (by decide), mo0 hτ, c5, nI_add]
    refine k _ (qt_tr qt_mo0 (qt_sI (qt_sI qt_rf rfl) rfl)) ?_ rfl
    rw [sI_u, sI_u, mo0 hτ, passF, c5, nI_add]
