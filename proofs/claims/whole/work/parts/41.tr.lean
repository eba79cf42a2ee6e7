theorem Tr_exists {E : mEn} {d : Nat} {σ : mSt} {Q : mPost} {a : Int32} : WP E d mTr_exists 0 [.ref 1, .int a] [] σ Q = Q (some (.int (b2i (¬ a < 0 ∧ ¬ nI 4 ≤ a)))) σ := by
  simp only [bTr_exists_0, bTr_exists_4, bTr_exists_9, bTr_exists_13, bTr_exists_14, eq_self, true_or, or_true]
  (repeat' split) <;> simp only [b2i, *, not_true_eq_false, not_false_eq_true, and_self, and_true, true_and, and_false, false_and, or_true, true_or, or_false, false_or, or_self, if_true, if_false, ite_self, eq_self, Bool.false_eq_true, Bool.true_eq_false]
theorem Tr_isSort {E : mEn} {d : Nat} {σ : mSt} {Q : mPost} {a : Int32} : WP E d mTr_isSort 0 [.ref 1, .int a] [] σ Q = Q (some (.int (b2i (¬ a < 0 ∧ ¬ nI 4 ≤ a)))) σ := by
  simp only [bTr_isSort_0, bTr_isSort_4, bTr_isSort_9, bTr_isSort_13, bTr_isSort_14, eq_self, true_or, or_true]
  (repeat' split) <;> simp only [b2i, *, not_true_eq_false, not_false_eq_true, and_self, and_true, true_and, and_false, false_and, or_true, true_or, or_false, false_or, or_self, if_true, if_false, ite_self, eq_self, Bool.false_eq_true, Bool.true_eq_false]
/-- a row's stretch all of one number -/
def fillL (σ : mSt) (o lo n : Nat) (v : Int64) : mSt := (σ.1, fun a b => if a = o ∧ lo ≤ b ∧ b < lo + n then v else σ.2 a b)
theorem fillL_0 {σ : mSt} {o lo : Nat} {v : Int64} : fillL σ o lo 0 v = σ := by
  unfold fillL
  refine Prod.ext rfl ?_
  funext a b
  dsimp only
  rw [if_neg (by omega)]
theorem fillL_s {σ : mSt} {o lo n : Nat} {v : Int64} : fillL (sL σ o lo v) o (lo + 1) n v = fillL σ o lo (n + 1) v := by
  unfold fillL sL
  refine Prod.ext rfl ?_
  funext a b
  dsimp only
  by_cases h : a = o <;> by_cases h2 : b = lo <;> simp [h, h2] <;> (repeat' split) <;> first | rfl | omega
theorem Tr_lay_loop {E : mEn} {d : Nat} {Q : mPost} {a2 : Int32} {t n : Nat} (ht : t < 4) (hn : n ≤ 60) : ∀ (j k : Nat) (σ : mSt), k + j = n → WP E d mTr_lay 36 [.ref 1, .int (nI t), .int a2, .int (nI n), .int (nI k)] [] σ Q = Q none (fillL σ 2 (t * 60 + k) j 0)
  | 0, k, σ, h => by
    rw [bTr_lay_36, if_pos (nI_le (by omega) (by omega)), bTr_lay_61, fillL_0]
  | j + 1, k, σ, h => by
    rw [bTr_lay_36, if_neg (nI_ge (by omega) (by omega)), bTr_lay_42, pk_mul, nI_add, nI_1, mOut_f (by omega) (by omega), nI_clamp (by omega)]
    simp only [Bool.false_eq_true, if_false]
    rw [Tr_lay_loop ht hn j (k + 1) _ (by omega), ← Nat.add_assoc, fillL_s]
theorem Tr_lay {E : mEn} {d : Nat} {Q : mPost} {a2 : Int32} {t n : Nat} {σ : mSt} {u4 : Value} (ht : t < 4) (hn : n ≤ 60) : WP E (d + 1) mTr_lay 0 [.ref 1, .int (nI t), .int a2, .int (nI n), u4] [] σ Q = Q none (fillL (sI (sI σ 3 t a2) 4 t (nI n)) 2 (t * 60) n 0) := by
  have e : ¬ nI t < 0 ∧ ¬ nI 4 ≤ nI t := ⟨nI_pos (by omega), nI_ge (by omega) (by omega)⟩
  rw [bTr_lay_0, Tr_exists, tl_s, bTr_lay_5, b2i_t e, if_neg (by decide), bTr_lay_8, if_neg (nI_pos (by omega)), bTr_lay_12, if_pos (nI_le (by omega) (by omega)), bTr_lay_19, mOut_f (by omega) (by omega), nI_clamp (by omega)]
  simp only [Bool.false_eq_true, if_false]
  exact Tr_lay_loop ht hn n 0 _ (by omega)
