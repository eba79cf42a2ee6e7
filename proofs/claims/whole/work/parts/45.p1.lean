theorem T10 : isT 10 := Or.inl rfl
theorem Inv_town {σ : mSt} (h : Inv σ) : ∃ np no nl nk dy, TRel σ 10 (σ.1 171) (σ.2 173) np no nl nk dy := h.2.2.2.2.2.2.2.2.2.2
theorem P_status {E : mEn} {d : Nat} {σ : mSt} (hI : Inv σ) : pairI E d mPb_status mMo_status [.ref 0] [.ref 166] σ := by
  unfold pairI
  rw [bPb_status_0]
  refine ⟨_, rfl, ?_⟩
  rw [bMo_status_0]
  refine ⟨?_, Inv_q hI (qt_sI qt_rf rfl) hI.1⟩
  rw [hI.1]; rfl
theorem P_top {E : mEn} {d : Nat} {σ : mSt} (hI : Inv σ) : pairL E d mPb_top mMo_top [.ref 0] [.ref 166] σ := by
  unfold pairL
  rw [bPb_top_0]
  refine ⟨_, rfl, ?_⟩
  rw [bMo_top_0]
  refine ⟨?_, Inv_q hI (qt_sI qt_rf rfl) hI.1⟩
  rw [hI.2.1.1]; rfl
theorem P_bottom {E : mEn} {d : Nat} {σ : mSt} (hI : Inv σ) : pairL E d mPb_bottom mMo_bottom [.ref 0] [.ref 166] σ := by
  unfold pairL
  rw [bPb_bottom_0]
  refine ⟨_, rfl, ?_⟩
  rw [bMo_bottom_0]
  refine ⟨?_, Inv_q hI (qt_sI qt_rf rfl) hI.1⟩
  rw [hI.2.1.2]; rfl
theorem P_fault {E : mEn} {d : Nat} {σ : mSt} {a : Int32} (hI : Inv σ) : pairI E d mPb_fault mMo_fault [.ref 0, .int a] [.ref 166, .int a] σ := by
  unfold pairI
  obtain ⟨-, -, ⟨e1, e2⟩, -⟩ := id hI
  by_cases h0 : a = 0
  · simp only [bPb_fault_0, bPb_fault_4, bPb_fault_9, bPb_fault_14, bPb_fault_21, bPb_fault_22, bMo_fault_0, bMo_fault_9, bMo_fault_16, bMo_fault_21, bMo_fault_28, bMo_fault_29, h0, not_true_eq_false, not_false_eq_true, and_self, and_true, true_and, and_false, false_and, or_true, true_or, or_false, false_or, or_self, if_true, if_false, ite_self, eq_self, Bool.false_eq_true, Bool.true_eq_false]
    exact ⟨_, rfl, by rw [e1]; rfl, Inv_q hI (qt_sI qt_rf rfl) hI.1⟩
  · by_cases h1 : a = 1
    · subst h1
      simp only [bPb_fault_0, bPb_fault_4, bPb_fault_9, bPb_fault_14, bPb_fault_21, bPb_fault_22, bMo_fault_0, bMo_fault_9, bMo_fault_16, bMo_fault_21, bMo_fault_28, bMo_fault_29, h0, not_true_eq_false, not_false_eq_true, and_self, and_true, true_and, and_false, false_and, or_true, true_or, or_false, false_or, or_self, if_true, if_false, ite_self, eq_self, Bool.false_eq_true, Bool.true_eq_false]
      exact ⟨_, rfl, by rw [e2]; rfl, Inv_q hI (qt_sI qt_rf rfl) hI.1⟩
    · simp only [bPb_fault_0, bPb_fault_4, bPb_fault_9, bPb_fault_14, bPb_fault_21, bPb_fault_22, bMo_fault_0, bMo_fault_9, bMo_fault_16, bMo_fault_21, bMo_fault_28, bMo_fault_29, h0, h1, not_true_eq_false, not_false_eq_true, and_self, and_true, true_and, and_false, false_and, or_true, true_or, or_false, false_or, or_self, if_true, if_false, ite_self, eq_self, Bool.false_eq_true, Bool.true_eq_false]
      exact ⟨_, rfl, rfl, Inv_q hI (qt_sI qt_rf rfl) hI.1⟩
theorem nI_lit0 : nI 0 = 0 := rfl
theorem nI_lit1 : nI 1 = 1 := rfl
theorem P_person {E : mEn} {d : Nat} {σ : mSt} {a w : Int32} (hI : Inv σ) : pairI E (d + 3) mPb_person mMo_person [.ref 0, .int a, .int w] [.ref 166, .int a, .int w] σ := by
  obtain ⟨np, no, nl, nk, dy, ⟨b1, -⟩, ⟨t1, c1⟩, -, -, -, -, -, g8, -⟩ := Inv_town hI
  by_cases hv : mOut a np = true
  · have hv' : ¬ mOut a np = false := by simp [hv]
    refine pairI_q hI (-1) (nI 2) (fun Q k => ?_) (fun τ q Q k => ?_)
    · simp only [bPb_person_0, bPb_person_8, bPb_person_11, bPb_person_16, bPb_person_17, bPb_person_17_s0, bPb_person_17_s1, bPb_person_17_s2, bPb_person_44, bPb_person_57, bPb_person_58, bPb_person_71, bPb_person_72, bPb_person_85, bPb_person_86, bPb_person_91, Tw_hasPerson T10 t1 b1, bPb_refuse_0, tl_s, b2i_f hv', not_true_eq_false, not_false_eq_true, and_self, and_true, true_and, and_false, false_and, or_true, true_or, or_false, false_or, or_self, if_true, if_false, ite_self, eq_self, Bool.false_eq_true, Bool.true_eq_false]
      exact k _ (qt_sI qt_rf rfl) rfl
    · have c1' : τ.1 171 0 = nI np := (q 171 0 rfl).1.trans c1
      simp only [bMo_person_0, bMo_person_15, bMo_person_18, bMo_person_23, bMo_person_24, bMo_person_28, bMo_person_40, bMo_person_45, bMo_person_57, bMo_person_62, bMo_person_74, bMo_person_79, Mo_isPersonAt (σ := sI (sI τ 166 1 0) 166 0 0) c1' b1, bMo_refuse_0, tl_s, b2i_f hv', not_true_eq_false, not_false_eq_true, and_self, and_true, true_and, and_false, false_and, or_true, true_or, or_false, false_or, or_self, if_true, if_false, ite_self, eq_self, Bool.false_eq_true, Bool.true_eq_false]
      exact k _ (qt_sI (qt_sI (qt_sI qt_rf rfl) rfl) rfl) rfl rfl
  · have hv' : mOut a np = false := by simpa using hv
    obtain ⟨p, hp, rfl⟩ := mOut_n hv'
    obtain ⟨e1, e2, e3⟩ := g8 p hp
    have n1 : ¬ (1 : Int32) = 0 := by decide
    have X : ∀ (v : Int32), (∀ Q : mPost, WP E (d + 3) mPb_person 17 [.ref 0, .int (nI p), .int w] [] σ Q = Q (some (.int v)) (sI σ 0 10 0)) → (∀ τ : mSt, qt SQ σ τ → ∀ Q : mPost, WP E (d + 3) mMo_person 24 [.ref 166, .int (nI p), .int w] [] τ Q = Q (some (.int v)) τ) → pairI E (d + 3) mPb_person mMo_person [.ref 0, .int (nI p), .int w] [.ref 166, .int (nI p), .int w] σ := by
      intro v hx hy
      refine pairI_q hI v 0 (fun Q k => ?_) (fun τ q Q k => ?_)
      · rw [bPb_person_0, Tw_hasPerson T10 t1 b1, tl_s, bPb_person_8, b2i_t hv', if_pos n1, hx]
        exact k _ (qt_sI qt_rf rfl) rfl
      · have c1' : τ.1 171 0 = nI np := (q 171 0 rfl).1.trans c1
        rw [bMo_person_0, Mo_isPersonAt (σ := sI (sI τ 166 1 0) 166 0 0) c1' b1, tl_s, bMo_person_15, b2i_t hv', if_pos n1, hy _ (qt_sI (qt_sI q rfl) rfl)]
        exact k _ (qt_sI (qt_sI qt_rf rfl) rfl) rfl rfl
    have m8 : mOut (nI p) 8 = false := mOut_f (by omega) (by omega)
    have cl : (nI p).toNatClampNeg = p := nI_clamp (by omega)
    rcases sw_cs w 0 2 with ⟨k, -, hk, rfl⟩ | hne
    · match k, hk with
      | 0, _ =>
        refine X (σ.1 171 (6 + p)) (fun Q => ?_) (fun τ q Q => ?_)
        · rw [bPb_person_17, bPb_person_17_s0, bPb_person_44, m8, cl, e1]; simp only [bPb_answer_0, bPb_person_57, tl_s, not_true_eq_false, not_false_eq_true, and_self, and_true, true_and, and_false, false_and, or_true, true_or, or_false, false_or, or_self, if_true, if_false, ite_self, eq_self, Bool.false_eq_true, Bool.true_eq_false]
        · simp only [bMo_person_24, bMo_person_28, bMo_person_79, nI_lit0, nI_add, mOut_f (show 6 + p < 3000 by omega) (by omega), nI_clamp (show 6 + p < 2 ^ 31 by omega), (q 171 (6 + p) rfl).1, not_true_eq_false, not_false_eq_true, and_self, and_true, true_and, and_false, false_and, or_true, true_or, or_false, false_or, or_self, if_true, if_false, ite_self, eq_self, Bool.false_eq_true, Bool.true_eq_false]
      | 1, _ =>
        refine X (σ.1 171 (14 + p)) (fun Q => ?_) (fun τ q Q => ?_)
        · rw [bPb_person_17, bPb_person_17_s1, bPb_person_58, m8, cl, e2]; simp only [bPb_answer_0, bPb_person_71, tl_s, not_true_eq_false, not_false_eq_true, and_self, and_true, true_and, and_false, false_and, or_true, true_or, or_false, false_or, or_self, if_true, if_false, ite_self, eq_self, Bool.false_eq_true, Bool.true_eq_false]
        · simp only [bMo_person_24, bMo_person_40, bMo_person_45, bMo_person_79, nI_lit1, n1, nI_add, mOut_f (show 14 + p < 3000 by omega) (by omega), nI_clamp (show 14 + p < 2 ^ 31 by omega), (q 171 (14 + p) rfl).1, not_true_eq_false, not_false_eq_true, and_self, and_true, true_and, and_false, false_and, or_true, true_or, or_false, false_or, or_self, if_true, if_false, ite_self, eq_self, Bool.false_eq_true, Bool.true_eq_false]
      | 2, _ =>
        refine X (σ.1 171 (22 + p)) (fun Q => ?_) (fun τ q Q => ?_)
        · rw [bPb_person_17, bPb_person_17_s2, bPb_person_72, m8, cl, e3]; simp only [bPb_answer_0, bPb_person_85, tl_s, not_true_eq_false, not_false_eq_true, and_self, and_true, true_and, and_false, false_and, or_true, true_or, or_false, false_or, or_self, if_true, if_false, ite_self, eq_self, Bool.false_eq_true, Bool.true_eq_false]
        · simp only [bMo_person_24, bMo_person_40, bMo_person_57, bMo_person_62, bMo_person_79, show ¬ nI 2 = 0 by decide, show ¬ nI 2 = 1 by decide, nI_add, mOut_f (show 22 + p < 3000 by omega) (by omega), nI_clamp (show 22 + p < 2 ^ 31 by omega), (q 171 (22 + p) rfl).1, not_true_eq_false, not_false_eq_true, and_self, and_true, true_and, and_false, false_and, or_true, true_or, or_false, false_or, or_self, if_true, if_false, ite_self, eq_self, Bool.false_eq_true, Bool.true_eq_false]
    · have w0 : ¬ w = 0 := hne 0 (by omega) (by omega)
      have w1 : ¬ w = 1 := hne 1 (by omega) (by omega)
      have w2 : ¬ w = nI 2 := hne 2 (by omega) (by omega)
      refine pairI_q hI (-1) (nI 5) (fun Q k => ?_) (fun τ q Q k => ?_)
      · rw [bPb_person_0, Tw_hasPerson T10 t1 b1, tl_s, bPb_person_8, b2i_t hv', if_pos n1, bPb_person_17, bPb_person_17_sD hne, bPb_person_86, bPb_refuse_0, tl_s, bPb_person_91]
        exact k _ (qt_sI qt_rf rfl) rfl
      · have c1' : τ.1 171 0 = nI np := (q 171 0 rfl).1.trans c1
        rw [bMo_person_0, Mo_isPersonAt (σ := sI (sI τ 166 1 0) 166 0 0) c1' b1, tl_s, bMo_person_15, b2i_t hv', if_pos n1, bMo_person_24, if_pos w0, bMo_person_40, if_pos w1, bMo_person_57, if_pos w2, bMo_person_74, bMo_refuse_0, tl_s, bMo_person_79]
        exact k _ (qt_sI (qt_sI (qt_sI qt_rf rfl) rfl) rfl) rfl rfl
