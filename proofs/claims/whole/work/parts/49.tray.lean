def STr (o k : Nat) : Bool := SQ o k || (o == 2 || o == 3 || o == 4 || o == 167 || o == 168 || o == 169)
theorem STr_T {t j k : Nat} (ht : 91 ≤ t ∧ t ≤ 141) (hj : j < 25) (h1 : j ≠ 10) (h2 : j ≠ 11) : STr (t + j) k = false := by
  simp only [STr, SQ, Bool.or_eq_false_iff, Bool.and_eq_false_iff, beq_eq_false_iff_ne, decide_eq_false_iff_not, ne_eq]
  omega
theorem Inv_Tr {σ τ : mSt} (h : Inv σ) (q : qt STr σ τ) (hs : τ.1 0 10 = τ.1 166 0) (htr : RTr τ) : Inv τ := by
  have e1 : ∀ o k, STr o k = false → τ.1 o k = σ.1 o k := fun o k g => (q o k g).1
  have e2 : ∀ o k, STr o k = false → τ.2 o k = σ.2 o k := fun o k g => (q o k g).2
  have f1 : ∀ o, (∀ k, STr o k = false) → τ.1 o = σ.1 o := fun o g => funext fun k => e1 o k (g k)
  have f2 : ∀ o, (∀ k, STr o k = false) → τ.2 o = σ.2 o := fun o g => funext fun k => e2 o k (g k)
  obtain ⟨h1, h2, h3, h4, h5, h6, h7, h8, h9, h10, h11⟩ := h
  refine ⟨hs, ?_, ?_, ?_, ?_, ?_, ?_, ?_, ?_, ?_, ?_⟩
  · rw [e2 0 11 rfl, e2 0 12 rfl, e2 166 2 rfl, e2 166 3 rfl]; exact h2
  · rw [e1 0 13 rfl, e1 0 14 rfl, e1 166 10 rfl, e1 166 11 rfl]; exact h3
  · rw [f1 7 (fun _ => rfl), f1 170 (fun _ => rfl), e1 6 2 rfl, e1 166 8 rfl]; exact h4
  · exact ⟨by rw [e1 177 0 rfl]; exact h5.1, by rw [e1 178 0 rfl]; exact h5.2.1, fun t ht k => by rw [e1 (t + 9) k (by rcases ht with rfl | rfl | rfl | rfl | rfl <;> rfl)]; exact h5.2.2 t ht k⟩
  · exact htr
  · obtain ⟨k, b1, b2, b3, b4⟩ := h7
    refine ⟨k, b1, by rw [e1 0 9 rfl]; exact b2, by rw [e1 166 23 rfl]; exact b3, fun i hi => ?_⟩
    have ec : (fun j => τ.1 171 (600 * (i + 1) + j)) = fun j => σ.1 171 (600 * (i + 1) + j) := funext fun j => e1 171 _ (by simp only [STr, SQ, Bool.or_eq_false_iff, Bool.and_eq_false_iff, beq_eq_false_iff_ne, decide_eq_false_iff_not, ne_eq]; omega)
    have ew : (fun j => τ.2 173 (20 * (i + 1) + j)) = fun j => σ.2 173 (20 * (i + 1) + j) := funext fun j => e2 173 _ (by simp only [STr, SQ, Bool.or_eq_false_iff, Bool.and_eq_false_iff, beq_eq_false_iff_ne, decide_eq_false_iff_not, ne_eq]; omega)
    rw [ec, ew]
    obtain ⟨np, no, nl, nk, dy, g⟩ := b4 i hi
    exact ⟨np, no, nl, nk, dy, TRel_q q (fun j k' hj x1 x2 => STr_T (by omega) hj x1 x2) g⟩
  · unfold RLv; rw [e1 0 15 rfl, e1 166 37 rfl, e1 73 4 rfl, e1 73 5 rfl, e1 73 6 rfl, e1 73 7 rfl, e1 73 8 rfl, f1 183 (fun _ => rfl)]; exact h8
  · unfold RRg; rw [e1 68 4 rfl, e1 166 33 rfl, f1 72 (fun _ => rfl), f1 180 (fun _ => rfl)]; exact h9
  · unfold RKw; rw [f2 8 (fun _ => rfl)]; exact h10
  · rw [f1 171 (fun _ => rfl), f2 173 (fun _ => rfl)]
    obtain ⟨np, no, nl, nk, dy, g⟩ := h11
    exact ⟨np, no, nl, nk, dy, TRel_q q (fun j k' hj x1 x2 => by simp only [STr, SQ, Bool.or_eq_false_iff, Bool.and_eq_false_iff, beq_eq_false_iff_ne, decide_eq_false_iff_not, ne_eq]; omega) g⟩
theorem in4 {a : Int32} : (¬ a < 0 ∧ ¬ nI 4 ≤ a) ↔ mOut a 4 = false := by
  have : mOut a 4 = false ↔ ¬ (mOut a 4 = true) := by simp
  rw [this, mOut_or (by omega), not_or]
theorem qt_fL {S : Nat → Nat → Bool} {σ τ : mSt} {a lo n : Nat} {v : Int64} (h : qt S σ τ) (hs : ∀ b, S a b = true) : qt S σ (fillL τ a lo n v) := fun o k h0 => by
  have hn : ¬ (o = a ∧ lo ≤ k ∧ k < lo + n) := fun q => by rw [q.1, hs k] at h0; cases h0
  exact ⟨(h o k h0).1, by unfold fillL; dsimp only; rw [if_neg hn]; exact (h o k h0).2⟩
theorem Tr_ex {E : mEn} {d : Nat} {σ : mSt} {Q : mPost} {a : Int32} : WP E d mTr_exists 0 [.ref 1, .int a] [] σ Q = Q (some (.int (b2i (mOut a 4 = false)))) σ := by rw [Tr_exists, b2i_congr in4]
theorem Tr_so {E : mEn} {d : Nat} {σ : mSt} {Q : mPost} {a : Int32} : WP E d mTr_isSort 0 [.ref 1, .int a] [] σ Q = Q (some (.int (b2i (mOut a 4 = false)))) σ := by rw [Tr_isSort, b2i_congr in4]
theorem m1neg : ((-1 : Int32) < 0) ∧ ¬ (0 : Int32) ≤ -1 := by decide
theorem Tr_missB {E : mEn} {d : Nat} {σ : mSt} {Q : mPost} {t : Nat} (ht : t < 4) (h : σ.1 4 t = -1) : WP E (d + 1) mTr_isMissing 0 [.ref 1, .int (nI t)] [] σ Q = Q (some (.int 1)) σ := by
  simp (disch := first | omega | assumption | exact b2i_or | exact T10 | exact Or.inl rfl | exact Or.inr rfl) only [bTr_isMissing_0, bTr_isMissing_5, bTr_isMissing_8, bTr_isMissing_17, bTr_isMissing_21, bTr_isMissing_22, Tr_ex, b2i_0, tl_s, nI_add, nI_1, pk_mul, mOut_f, nI_clamp, h, m1neg.2, not_true_eq_false, not_false_eq_true, and_self, and_true, true_and, and_false, false_and, or_true, true_or, or_false, false_or, or_self, if_true, if_false, ite_self, eq_self, Bool.false_eq_true, Bool.true_eq_false]
theorem Tr_missC {E : mEn} {d : Nat} {σ : mSt} {Q : mPost} {t n : Nat} (ht : t < 4) (hn : n ≤ 60) (h : σ.1 4 t = nI n) : WP E (d + 1) mTr_isMissing 0 [.ref 1, .int (nI t)] [] σ Q = Q (some (.int 0)) σ := by
  simp (disch := first | omega | assumption | exact b2i_or | exact T10 | exact Or.inl rfl | exact Or.inr rfl) only [bTr_isMissing_0, bTr_isMissing_5, bTr_isMissing_8, bTr_isMissing_17, bTr_isMissing_21, bTr_isMissing_22, Tr_ex, b2i_0, tl_s, nI_add, nI_1, pk_mul, mOut_f, nI_clamp, h, nI_pos', not_true_eq_false, not_false_eq_true, and_self, and_true, true_and, and_false, false_and, or_true, true_or, or_false, false_or, or_self, if_true, if_false, ite_self, eq_self, Bool.false_eq_true, Bool.true_eq_false]
theorem Tr_len {E : mEn} {d : Nat} {σ : mSt} {Q : mPost} {t n : Nat} (ht : t < 4) (hn : n ≤ 60) (h : σ.1 4 t = nI n) : WP E (d + 2) mTr_lengthOf 0 [.ref 1, .int (nI t)] [] σ Q = Q (some (.int (nI n))) σ := by
  simp (disch := first | omega | assumption | exact b2i_or | exact T10 | exact Or.inl rfl | exact Or.inr rfl) only [bTr_lengthOf_0, bTr_lengthOf_5, bTr_lengthOf_8, bTr_lengthOf_12, bTr_lengthOf_18, Tr_missC ht hn h, tl_s, nI_add, nI_1, pk_mul, mOut_f, nI_clamp, h, not_true_eq_false, not_false_eq_true, and_self, and_true, true_and, and_false, false_and, or_true, true_or, or_false, false_or, or_self, if_true, if_false, ite_self, eq_self, Bool.false_eq_true, Bool.true_eq_false]
theorem pred_lt {a : Int32} {n : Nat} (hn : n < 2 ^ 31) (h0 : ¬ a < 0) : (nI n - 1 < a) = (nI n ≤ a) := by
  obtain ⟨j, hj, rfl⟩ := nI_of h0
  apply propext
  match n, hn with
  | 0, _ => exact ⟨fun _ => nI_pos' hj, fun _ => Int32.lt_of_lt_of_le (by decide) (nI_pos' hj)⟩
  | n + 1, hn => rw [nI_pred, nI_ltI (by omega) hj, nI_leI hn hj]; omega
theorem Tr_row1 {E : mEn} {d : Nat} {σ : mSt} {Q : mPost} {t n : Nat} {b : Int32} (ht : t < 4) (hn : n ≤ 60) (h : σ.1 4 t = nI n) : WP E (d + 3) mTr_hasRow 0 [.ref 1, .int (nI t), .int b, .int 1] [] σ Q = Q (some (.int (b2i (mOut b n = false)))) σ := by
  simp (disch := first | omega | assumption | exact b2i_or | exact T10 | exact Or.inl rfl | exact Or.inr rfl) only [bTr_hasRow_0, bTr_hasRow_4, bTr_hasRow_8, bTr_hasRow_14, bTr_hasRow_19, bTr_hasRow_23, bTr_hasRow_24, Tr_len ht hn h, tl_s, show ¬ (1 : Int32) < 0 by decide, b2i_Q, not_true_eq_false, not_false_eq_true, and_self, and_true, true_and, and_false, false_and, or_true, true_or, or_false, false_or, or_self, if_true, if_false, ite_self, eq_self, Bool.false_eq_true, Bool.true_eq_false]
  by_cases h0 : b < 0
  · have e : mOut b n = true := (mOut_or (by omega)).mpr (Or.inl h0)
    simp only [h0, e, not_true_eq_false, not_false_eq_true, and_self, and_true, true_and, and_false, false_and, or_true, true_or, or_false, false_or, or_self, if_true, if_false, ite_self, eq_self, Bool.false_eq_true, Bool.true_eq_false]
  · rw [← in2 (A := Q (some (.int 0)) σ) (by omega)]
    simp only [h0, pred_lt (show n < 2 ^ 31 by omega) h0, not_true_eq_false, not_false_eq_true, and_self, and_true, true_and, and_false, false_and, or_true, true_or, or_false, false_or, or_self, if_true, if_false, ite_self, eq_self, Bool.false_eq_true, Bool.true_eq_false]
theorem Tr_whyA {E : mEn} {d : Nat} {σ : mSt} {Q : mPost} {a b : Int32} (h : ¬ mOut a 4 = false) : WP E (d + 4) mTr_whyNot 0 [.ref 1, .int a, .int b] [] σ Q = Q (some (.int 1)) σ := by
  simp (disch := first | omega | assumption | exact b2i_or | exact T10 | exact Or.inl rfl | exact Or.inr rfl) only [bTr_whyNot_0, bTr_whyNot_5, bTr_whyNot_8, bTr_whyNot_10, bTr_whyNot_15, bTr_whyNot_18, bTr_whyNot_20, bTr_whyNot_27, bTr_whyNot_30, bTr_whyNot_34, bTr_whyNot_35, Tr_ex, b2i_f h, tl_s, not_true_eq_false, not_false_eq_true, and_self, and_true, true_and, and_false, false_and, or_true, true_or, or_false, false_or, or_self, if_true, if_false, ite_self, eq_self, Bool.false_eq_true, Bool.true_eq_false]
theorem Tr_whyB {E : mEn} {d : Nat} {σ : mSt} {Q : mPost} {t : Nat} {b : Int32} (ht : t < 4) (h : σ.1 4 t = -1) : WP E (d + 4) mTr_whyNot 0 [.ref 1, .int (nI t), .int b] [] σ Q = Q (some (.int (nI 3))) σ := by
  simp (disch := first | omega | assumption | exact b2i_or | exact T10 | exact Or.inl rfl | exact Or.inr rfl) only [bTr_whyNot_0, bTr_whyNot_5, bTr_whyNot_8, bTr_whyNot_10, bTr_whyNot_15, bTr_whyNot_18, bTr_whyNot_20, bTr_whyNot_27, bTr_whyNot_30, bTr_whyNot_34, bTr_whyNot_35, Tr_ex, Tr_missB ht h, b2i_0, tl_s, i10, nI_add, nI_1, pk_mul, mOut_f, nI_clamp, not_true_eq_false, not_false_eq_true, and_self, and_true, true_and, and_false, false_and, or_true, true_or, or_false, false_or, or_self, if_true, if_false, ite_self, eq_self, Bool.false_eq_true, Bool.true_eq_false]
theorem Tr_whyC {E : mEn} {d : Nat} {σ : mSt} {Q : mPost} {t n : Nat} {b : Int32} (ht : t < 4) (hn : n ≤ 60) (h : σ.1 4 t = nI n) (hb : ¬ mOut b n = false) : WP E (d + 4) mTr_whyNot 0 [.ref 1, .int (nI t), .int b] [] σ Q = Q (some (.int (nI 4))) σ := by
  simp (disch := first | omega | assumption | exact b2i_or | exact T10 | exact Or.inl rfl | exact Or.inr rfl) only [bTr_whyNot_0, bTr_whyNot_5, bTr_whyNot_8, bTr_whyNot_10, bTr_whyNot_15, bTr_whyNot_18, bTr_whyNot_20, bTr_whyNot_27, bTr_whyNot_30, bTr_whyNot_34, bTr_whyNot_35, Tr_ex, Tr_missC ht hn h, Tr_row1 ht hn h, b2i_0, hb, tl_s, nI_add, nI_1, pk_mul, mOut_f, nI_clamp, not_true_eq_false, not_false_eq_true, and_self, and_true, true_and, and_false, false_and, or_true, true_or, or_false, false_or, or_self, if_true, if_false, ite_self, eq_self, Bool.false_eq_true, Bool.true_eq_false]
theorem Tr_whyD {E : mEn} {d : Nat} {σ : mSt} {Q : mPost} {t n : Nat} {b : Int32} (ht : t < 4) (hn : n ≤ 60) (h : σ.1 4 t = nI n) (hb : mOut b n = false) : WP E (d + 4) mTr_whyNot 0 [.ref 1, .int (nI t), .int b] [] σ Q = Q (some (.int 0)) σ := by
  simp (disch := first | omega | assumption | exact b2i_or | exact T10 | exact Or.inl rfl | exact Or.inr rfl) only [bTr_whyNot_0, bTr_whyNot_5, bTr_whyNot_8, bTr_whyNot_10, bTr_whyNot_15, bTr_whyNot_18, bTr_whyNot_20, bTr_whyNot_27, bTr_whyNot_30, bTr_whyNot_34, bTr_whyNot_35, Tr_ex, Tr_missC ht hn h, Tr_row1 ht hn h, b2i_0, hb, tl_s, nI_add, nI_1, pk_mul, mOut_f, nI_clamp, not_true_eq_false, not_false_eq_true, and_self, and_true, true_and, and_false, false_and, or_true, true_or, or_false, false_or, or_self, if_true, if_false, ite_self, eq_self, Bool.false_eq_true, Bool.true_eq_false]
theorem Mo_trA {E : mEn} {d : Nat} {σ : mSt} {Q : mPost} {a : Int32} (h : ¬ mOut a 4 = false) : WP E d mMo_trayed 0 [.ref 166, .int a] [] σ Q = Q (some (.int 1)) σ := by
  have h' : mOut a 4 = true := by simpa using h
  simp (disch := first | omega | assumption | exact b2i_or | exact T10 | exact Or.inl rfl | exact Or.inr rfl) only [bMo_trayed_0, bMo_trayed_4, bMo_trayed_9, bMo_trayed_13, bMo_trayed_22, bMo_trayed_26, bMo_trayed_27, not_true_eq_false, not_false_eq_true, and_self, and_true, true_and, and_false, false_and, or_true, true_or, or_false, false_or, or_self, if_true, if_false, ite_self, eq_self, Bool.false_eq_true, Bool.true_eq_false]
  by_cases h0 : a < 0
  · simp only [h0, not_true_eq_false, not_false_eq_true, and_self, and_true, true_and, and_false, false_and, or_true, true_or, or_false, false_or, or_self, if_true, if_false, ite_self, eq_self, Bool.false_eq_true, Bool.true_eq_false]
  · have h1 : ¬ a < nI 4 := Int32.not_lt.mpr (((mOut_or (by omega)).mp h').resolve_left h0)
    simp only [h0, h1, not_true_eq_false, not_false_eq_true, and_self, and_true, true_and, and_false, false_and, or_true, true_or, or_false, false_or, or_self, if_true, if_false, ite_self, eq_self, Bool.false_eq_true, Bool.true_eq_false]
theorem Mo_trB {E : mEn} {d : Nat} {σ : mSt} {Q : mPost} {t : Nat} (ht : t < 4) (h : σ.1 168 t = -1) : WP E d mMo_trayed 0 [.ref 166, .int (nI t)] [] σ Q = Q (some (.int (nI 3))) σ := by
  simp (disch := first | omega | assumption | exact b2i_or | exact T10 | exact Or.inl rfl | exact Or.inr rfl) only [bMo_trayed_0, bMo_trayed_4, bMo_trayed_9, bMo_trayed_13, bMo_trayed_22, bMo_trayed_26, bMo_trayed_27, nI_pos, nI_lt, nI_add, nI_1, pk_mul, mOut_f, nI_clamp, h, m1neg.2, not_true_eq_false, not_false_eq_true, and_self, and_true, true_and, and_false, false_and, or_true, true_or, or_false, false_or, or_self, if_true, if_false, ite_self, eq_self, Bool.false_eq_true, Bool.true_eq_false]
theorem Mo_trC {E : mEn} {d : Nat} {σ : mSt} {Q : mPost} {t n : Nat} (ht : t < 4) (hn : n ≤ 60) (h : σ.1 168 t = nI n) : WP E d mMo_trayed 0 [.ref 166, .int (nI t)] [] σ Q = Q (some (.int 0)) σ := by
  simp (disch := first | omega | assumption | exact b2i_or | exact T10 | exact Or.inl rfl | exact Or.inr rfl) only [bMo_trayed_0, bMo_trayed_4, bMo_trayed_9, bMo_trayed_13, bMo_trayed_22, bMo_trayed_26, bMo_trayed_27, nI_pos, nI_lt, nI_add, nI_1, pk_mul, mOut_f, nI_clamp, h, nI_pos', not_true_eq_false, not_false_eq_true, and_self, and_true, true_and, and_false, false_and, or_true, true_or, or_false, false_or, or_self, if_true, if_false, ite_self, eq_self, Bool.false_eq_true, Bool.true_eq_false]
theorem Mo_plA {E : mEn} {d : Nat} {σ : mSt} {Q : mPost} {a b : Int32} {u : Value} (h : ¬ mOut a 4 = false) : WP E (d + 1) mMo_placed 0 [.ref 166, .int a, .int b, u] [] σ Q = Q (some (.int 1)) σ := by
  simp (disch := first | omega | assumption | exact b2i_or | exact T10 | exact Or.inl rfl | exact Or.inr rfl) only [bMo_placed_0, bMo_placed_5, bMo_placed_10, bMo_placed_14, bMo_placed_18, bMo_placed_28, bMo_placed_32, bMo_placed_33, Mo_trA h, tl_s, show ¬ (1 : Int32) ≤ 0 by decide, not_true_eq_false, not_false_eq_true, and_self, and_true, true_and, and_false, false_and, or_true, true_or, or_false, false_or, or_self, if_true, if_false, ite_self, eq_self, Bool.false_eq_true, Bool.true_eq_false]
theorem Mo_plB {E : mEn} {d : Nat} {σ : mSt} {Q : mPost} {t : Nat} {b : Int32} {u : Value} (ht : t < 4) (h : σ.1 168 t = -1) : WP E (d + 1) mMo_placed 0 [.ref 166, .int (nI t), .int b, u] [] σ Q = Q (some (.int (nI 3))) σ := by
  simp (disch := first | omega | assumption | exact b2i_or | exact T10 | exact Or.inl rfl | exact Or.inr rfl) only [bMo_placed_0, bMo_placed_5, bMo_placed_10, bMo_placed_14, bMo_placed_18, bMo_placed_28, bMo_placed_32, bMo_placed_33, Mo_trB ht h, tl_s, show ¬ nI 3 ≤ 0 by decide, not_true_eq_false, not_false_eq_true, and_self, and_true, true_and, and_false, false_and, or_true, true_or, or_false, false_or, or_self, if_true, if_false, ite_self, eq_self, Bool.false_eq_true, Bool.true_eq_false]
theorem Mo_plC {E : mEn} {d : Nat} {σ : mSt} {Q : mPost} {t n : Nat} {b : Int32} {u : Value} (ht : t < 4) (hn : n ≤ 60) (h : σ.1 168 t = nI n) (hb : ¬ mOut b n = false) : WP E (d + 1) mMo_placed 0 [.ref 166, .int (nI t), .int b, u] [] σ Q = Q (some (.int (nI 4))) σ := by
  have h' : mOut b n = true := by simpa using hb
  simp (disch := first | omega | assumption | exact b2i_or | exact T10 | exact Or.inl rfl | exact Or.inr rfl) only [bMo_placed_0, bMo_placed_5, bMo_placed_10, bMo_placed_14, bMo_placed_18, bMo_placed_28, bMo_placed_32, bMo_placed_33, Mo_trC ht hn h, tl_s, show (0 : Int32) ≤ 0 by decide, nI_add, nI_1, pk_mul, mOut_f, nI_clamp, h, not_true_eq_false, not_false_eq_true, and_self, and_true, true_and, and_false, false_and, or_true, true_or, or_false, false_or, or_self, if_true, if_false, ite_self, eq_self, Bool.false_eq_true, Bool.true_eq_false]
  by_cases h0 : b < 0
  · simp only [h0, not_true_eq_false, not_false_eq_true, and_self, and_true, true_and, and_false, false_and, or_true, true_or, or_false, false_or, or_self, if_true, if_false, ite_self, eq_self, Bool.false_eq_true, Bool.true_eq_false]
  · have h1 : ¬ b < nI n := Int32.not_lt.mpr (((mOut_or (by omega)).mp h').resolve_left h0)
    simp only [h0, h1, not_true_eq_false, not_false_eq_true, and_self, and_true, true_and, and_false, false_and, or_true, true_or, or_false, false_or, or_self, if_true, if_false, ite_self, eq_self, Bool.false_eq_true, Bool.true_eq_false]
theorem Mo_plD {E : mEn} {d : Nat} {σ : mSt} {Q : mPost} {t n j : Nat} {u : Value} (ht : t < 4) (hn : n ≤ 60) (h : σ.1 168 t = nI n) (hj : j < n) : WP E (d + 1) mMo_placed 0 [.ref 166, .int (nI t), .int (nI j), u] [] σ Q = Q (some (.int 0)) σ := by
  simp (disch := first | omega | assumption | exact b2i_or | exact T10 | exact Or.inl rfl | exact Or.inr rfl) only [bMo_placed_0, bMo_placed_5, bMo_placed_10, bMo_placed_14, bMo_placed_18, bMo_placed_28, bMo_placed_32, bMo_placed_33, Mo_trC ht hn h, tl_s, show (0 : Int32) ≤ 0 by decide, nI_add, nI_1, pk_mul, mOut_f, nI_clamp, h, nI_pos, nI_lt, not_true_eq_false, not_false_eq_true, and_self, and_true, true_and, and_false, false_and, or_true, true_or, or_false, false_or, or_self, if_true, if_false, ite_self, eq_self, Bool.false_eq_true, Bool.true_eq_false]
theorem Mo_tray_loop {E : mEn} {d : Nat} {Q : mPost} {a2 : Int32} {t n : Nat} (ht : t < 4) (hn : n ≤ 60) : ∀ (j k : Nat) (σ : mSt), k + j = n → WP E d mMo_tray 74 [.ref 166, .int (nI t), .int a2, .int (nI n), .int (nI k)] [] σ Q = Q (some (.int 1)) (fillL σ 169 (60 * t + k) j 0)
  | 0, k, σ, h => by
    rw [bMo_tray_74, if_pos (nI_le (by omega) (by omega)), bMo_tray_99, fillL_0]
  | j + 1, k, σ, h => by
    rw [bMo_tray_74, if_neg (nI_ge (by omega) (by omega)), bMo_tray_80, pk_mul, nI_add, nI_1, mOut_f (by omega) (by omega), nI_clamp (by omega)]
    simp only [not_true_eq_false, not_false_eq_true, and_self, and_true, true_and, and_false, false_and, or_true, true_or, or_false, false_or, or_self, if_true, if_false, ite_self, eq_self, Bool.false_eq_true, Bool.true_eq_false]
    rw [Mo_tray_loop ht hn j (k + 1) _ (by omega), ← Nat.add_assoc, fillL_s]
theorem RTr_at {σ : mSt} (h : RTr σ) {t : Nat} (ht : t < 4) : σ.1 4 t = σ.1 168 t := by rw [h.2.2.1]
theorem P_tray {E : mEn} {d : Nat} {σ : mSt} {a b m : Int32} (hI : Inv σ) : pairI E (d + 6) mPb_tray mMo_tray [.ref 0, .int a, .int b, .int m] [.ref 166, .int a, .int b, .int m, uu] σ := by
  have hR : RTr σ := hI.2.2.2.2.2.1
  by_cases ha : mOut a 4 = false
  rotate_left
  · refine pairI_q hI 0 1 (fun Q k => ?_) (fun τ q Q k => ?_)
    · simp (disch := first | omega | assumption | exact b2i_or | exact T10 | exact Or.inl rfl | exact Or.inr rfl) only [bPb_tray_0, bPb_tray_8, bPb_tray_11, bPb_tray_19, bPb_tray_22, bPb_tray_27, bPb_tray_28, bPb_tray_34, bPb_tray_39, bPb_tray_40, bPb_tray_44, bPb_tray_50, bPb_tray_51, bPb_tray_61, bPb_tray_65, Tr_ex, b2i_f ha, bPb_deny_0, tl_s, not_true_eq_false, not_false_eq_true, and_self, and_true, true_and, and_false, false_and, or_true, true_or, or_false, false_or, or_self, if_true, if_false, ite_self, eq_self, Bool.false_eq_true, Bool.true_eq_false]
      exact k _ (by repeat' (first | exact qt_rf | assumption | refine qt_sI ?_ rfl | refine qt_sL ?_ rfl)) rfl
    · have h' : mOut a 4 = true := by simpa using ha
      have e : ∀ A B : Prop, (if a < 0 then A else if nI 4 ≤ a then A else B) = A := fun A B => by rw [in2 (by omega), if_neg ha]
      rw [bMo_tray_0, bMo_tray_14, e]
      simp only [bMo_tray_0, bMo_tray_14, bMo_tray_19, bMo_tray_23, bMo_tray_28, bMo_tray_33, bMo_tray_34, bMo_tray_40, bMo_tray_45, bMo_tray_46, bMo_tray_50, bMo_tray_56, bMo_tray_57, bMo_tray_80, bMo_tray_99, bMo_no_0, tl_s, not_true_eq_false, not_false_eq_true, and_self, and_true, true_and, and_false, false_and, or_true, true_or, or_false, false_or, or_self, if_true, if_false, ite_self, eq_self, Bool.false_eq_true, Bool.true_eq_false]
      exact k _ (by repeat' (first | exact qt_rf | assumption | refine qt_sI ?_ rfl | refine qt_sL ?_ rfl)) rfl rfl
  obtain ⟨t, ht, rfl⟩ := mOut_n ha
  by_cases hb : mOut b 4 = false
  rotate_left
  · refine pairI_q hI 0 1 (fun Q k => ?_) (fun τ q Q k => ?_)
    · simp (disch := first | omega | assumption | exact b2i_or | exact T10 | exact Or.inl rfl | exact Or.inr rfl) only [bPb_tray_0, bPb_tray_8, bPb_tray_11, bPb_tray_19, bPb_tray_22, bPb_tray_27, bPb_tray_28, bPb_tray_34, bPb_tray_39, bPb_tray_40, bPb_tray_44, bPb_tray_50, bPb_tray_51, bPb_tray_61, bPb_tray_65, Tr_ex, Tr_so, b2i_t ha, b2i_f hb, i10, bPb_deny_0, tl_s, not_true_eq_false, not_false_eq_true, and_self, and_true, true_and, and_false, false_and, or_true, true_or, or_false, false_or, or_self, if_true, if_false, ite_self, eq_self, Bool.false_eq_true, Bool.true_eq_false]
      exact k _ (by repeat' (first | exact qt_rf | assumption | refine qt_sI ?_ rfl | refine qt_sL ?_ rfl)) rfl
    · have h' : mOut b 4 = true := by simpa using hb
      simp (disch := first | omega | assumption | exact b2i_or | exact T10 | exact Or.inl rfl | exact Or.inr rfl) only [bMo_tray_0, bMo_tray_14, bMo_tray_19, bMo_tray_23, bMo_tray_28, bMo_tray_33, bMo_tray_34, bMo_tray_40, bMo_tray_45, bMo_tray_46, bMo_tray_50, bMo_tray_56, bMo_tray_57, bMo_tray_80, bMo_tray_99, bMo_no_0, tl_s, nI_pos, nI_ge, not_true_eq_false, not_false_eq_true, and_self, and_true, true_and, and_false, false_and, or_true, true_or, or_false, false_or, or_self, if_true, if_false, ite_self, eq_self, Bool.false_eq_true, Bool.true_eq_false]
      by_cases h0 : b < 0
      · simp only [h0, not_true_eq_false, not_false_eq_true, and_self, and_true, true_and, and_false, false_and, or_true, true_or, or_false, false_or, or_self, if_true, if_false, ite_self, eq_self, Bool.false_eq_true, Bool.true_eq_false]
        exact k _ (by repeat' (first | exact qt_rf | assumption | refine qt_sI ?_ rfl | refine qt_sL ?_ rfl)) rfl rfl
      · have h1 : ¬ b ≤ nI 3 := fun q => by
          have h2 := ((mOut_or (by omega)).mp h').resolve_left h0
          exact absurd (Int32.le_trans h2 q) (by decide)
        simp only [h0, h1, not_true_eq_false, not_false_eq_true, and_self, and_true, true_and, and_false, false_and, or_true, true_or, or_false, false_or, or_self, if_true, if_false, ite_self, eq_self, Bool.false_eq_true, Bool.true_eq_false]
        exact k _ (by repeat' (first | exact qt_rf | assumption | refine qt_sI ?_ rfl | refine qt_sL ?_ rfl)) rfl rfl
  obtain ⟨s, hs, rfl⟩ := mOut_n hb
  by_cases h60 : m ≤ nI 60
  rotate_left
  · refine pairI_q hI 0 (nI 5) (fun Q k => ?_) (fun τ q Q k => ?_)
    · simp (disch := first | omega | assumption | exact b2i_or | exact T10 | exact Or.inl rfl | exact Or.inr rfl) only [bPb_tray_0, bPb_tray_8, bPb_tray_11, bPb_tray_19, bPb_tray_22, bPb_tray_27, bPb_tray_28, bPb_tray_34, bPb_tray_39, bPb_tray_40, bPb_tray_44, bPb_tray_50, bPb_tray_51, bPb_tray_61, bPb_tray_65, Tr_ex, Tr_so, b2i_t ha, b2i_t hb, i10, h60, bPb_deny_0, tl_s, not_true_eq_false, not_false_eq_true, and_self, and_true, true_and, and_false, false_and, or_true, true_or, or_false, false_or, or_self, if_true, if_false, ite_self, eq_self, Bool.false_eq_true, Bool.true_eq_false]
      exact k _ (by repeat' (first | exact qt_rf | assumption | refine qt_sI ?_ rfl | refine qt_sL ?_ rfl)) rfl
    · simp (disch := first | omega | assumption | exact b2i_or | exact T10 | exact Or.inl rfl | exact Or.inr rfl) only [bMo_tray_0, bMo_tray_14, bMo_tray_19, bMo_tray_23, bMo_tray_28, bMo_tray_33, bMo_tray_34, bMo_tray_40, bMo_tray_45, bMo_tray_46, bMo_tray_50, bMo_tray_56, bMo_tray_57, bMo_tray_80, bMo_tray_99, bMo_no_0, tl_s, nI_pos, nI_ge, nI_le, h60, not_true_eq_false, not_false_eq_true, and_self, and_true, true_and, and_false, false_and, or_true, true_or, or_false, false_or, or_self, if_true, if_false, ite_self, eq_self, Bool.false_eq_true, Bool.true_eq_false]
      exact k _ (by repeat' (first | exact qt_rf | assumption | refine qt_sI ?_ rfl | refine qt_sL ?_ rfl)) rfl rfl
  by_cases hm0 : 0 ≤ m
  rotate_left
  · refine pairI_q hI 0 (nI 6) (fun Q k => ?_) (fun τ q Q k => ?_)
    · simp (disch := first | omega | assumption | exact b2i_or | exact T10 | exact Or.inl rfl | exact Or.inr rfl) only [bPb_tray_0, bPb_tray_8, bPb_tray_11, bPb_tray_19, bPb_tray_22, bPb_tray_27, bPb_tray_28, bPb_tray_34, bPb_tray_39, bPb_tray_40, bPb_tray_44, bPb_tray_50, bPb_tray_51, bPb_tray_61, bPb_tray_65, Tr_ex, Tr_so, b2i_t ha, b2i_t hb, i10, h60, hm0, bPb_deny_0, tl_s, not_true_eq_false, not_false_eq_true, and_self, and_true, true_and, and_false, false_and, or_true, true_or, or_false, false_or, or_self, if_true, if_false, ite_self, eq_self, Bool.false_eq_true, Bool.true_eq_false]
      exact k _ (by repeat' (first | exact qt_rf | assumption | refine qt_sI ?_ rfl | refine qt_sL ?_ rfl)) rfl
    · simp (disch := first | omega | assumption | exact b2i_or | exact T10 | exact Or.inl rfl | exact Or.inr rfl) only [bMo_tray_0, bMo_tray_14, bMo_tray_19, bMo_tray_23, bMo_tray_28, bMo_tray_33, bMo_tray_34, bMo_tray_40, bMo_tray_45, bMo_tray_46, bMo_tray_50, bMo_tray_56, bMo_tray_57, bMo_tray_80, bMo_tray_99, bMo_no_0, tl_s, nI_pos, nI_ge, nI_le, h60, hm0, not_true_eq_false, not_false_eq_true, and_self, and_true, true_and, and_false, false_and, or_true, true_or, or_false, false_or, or_self, if_true, if_false, ite_self, eq_self, Bool.false_eq_true, Bool.true_eq_false]
      exact k _ (by repeat' (first | exact qt_rf | assumption | refine qt_sI ?_ rfl | refine qt_sL ?_ rfl)) rfl rfl
  obtain ⟨n, hn31, rfl⟩ := nI_of (Int32.not_lt.mpr hm0)
  have hn : n ≤ 60 := (nI_leI hn31 (by omega)).mp h60
  unfold pairI
  simp (disch := first | omega | assumption | exact b2i_or | exact T10 | exact Or.inl rfl | exact Or.inr rfl) only [bPb_tray_0, bPb_tray_8, bPb_tray_11, bPb_tray_19, bPb_tray_22, bPb_tray_27, bPb_tray_28, bPb_tray_34, bPb_tray_39, bPb_tray_40, bPb_tray_44, bPb_tray_50, bPb_tray_51, bPb_tray_61, bPb_tray_65, Tr_ex, Tr_so, b2i_t ha, b2i_t hb, i10, h60, hm0, bPb_grant_0, Tr_lay ht hn, tl_s, tl_n, not_true_eq_false, not_false_eq_true, and_self, and_true, true_and, and_false, false_and, or_true, true_or, or_false, false_or, or_self, if_true, if_false, ite_self, eq_self, Bool.false_eq_true, Bool.true_eq_false]
  refine ⟨1, rfl, ?_⟩
  simp (disch := first | omega | assumption | exact b2i_or | exact T10 | exact Or.inl rfl | exact Or.inr rfl) only [bMo_tray_0, bMo_tray_14, bMo_tray_19, bMo_tray_23, bMo_tray_28, bMo_tray_33, bMo_tray_34, bMo_tray_40, bMo_tray_45, bMo_tray_46, bMo_tray_50, bMo_tray_56, bMo_tray_57, bMo_tray_80, bMo_tray_99, nI_pos, nI_ge, nI_le, h60, hm0, nI_add, nI_1, pk_mul, mOut_f, nI_clamp, not_true_eq_false, not_false_eq_true, and_self, and_true, true_and, and_false, false_and, or_true, true_or, or_false, false_or, or_self, if_true, if_false, ite_self, eq_self, Bool.false_eq_true, Bool.true_eq_false]
  rw [show (0 : Int32) = nI 0 from rfl, Mo_tray_loop ht hn n 0 _ (by omega)]
  refine ⟨rfl, Inv_Tr hI ?_ rfl ?_⟩
  · refine qt_fL (qt_sI (qt_sI (qt_sI (qt_sI (qt_sI (qt_fL (qt_sI (qt_sI qt_rf rfl) rfl) (fun _ => rfl)) rfl) rfl) rfl) rfl) rfl) (fun _ => rfl)
  · obtain ⟨r1, r2, r3, r4⟩ := hR
    refine ⟨?_, ?_, ?_, ?_⟩
    · funext j
      have := congrFun r1 j
      simp [fillL, sI, this, Nat.mul_comm]
    · funext j
      have := congrFun r2 j
      simp [fillL, sI, this]
    · funext j
      have := congrFun r3 j
      simp [fillL, sI, this]
    · intro j hj
      by_cases e : j = t
      · right; exact ⟨n, hn, by simp [fillL, sI, e]⟩
      · have := r4 j hj
        simpa [fillL, sI, e] using this
