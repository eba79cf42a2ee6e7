theorem mOut_or {a : Int32} {n : Nat} (hn : n < 2 ^ 31) : mOut a n = true ↔ (a < 0 ∨ nI n ≤ a) := by
  by_cases h0 : a < 0
  · simp [mOut, h0]
  · obtain ⟨j, hj, rfl⟩ := nI_of h0
    simp only [mOut, h0, decide_false, Bool.false_or, decide_eq_true_eq, false_or, nI_clamp hj]
    exact (nI_leI hn hj).symm
theorem mOut_n {a : Int32} {n : Nat} (h : mOut a n = false) : ∃ p, p < n ∧ a = nI p := by
  have h0 : ¬ a < 0 := fun q => by simp [mOut, q] at h
  obtain ⟨j, hj, rfl⟩ := nI_of h0
  refine ⟨j, ?_, rfl⟩
  simp only [mOut, h0, decide_false, Bool.false_or, decide_eq_false_iff_not, nI_clamp hj] at h
  omega
theorem mOut_le {a : Int32} {n N : Nat} (h : mOut a n = false) (hN : n ≤ N) (h31 : N ≤ 2 ^ 31) : mOut a N = false := by
  obtain ⟨p, hp, rfl⟩ := mOut_n h
  exact mOut_f (by omega) h31
theorem b2i_Q {Q : mPost} {c : Prop} [Decidable c] {σ : mSt} : Q (some (.int (b2i c))) σ = if c then Q (some (.int 1)) σ else Q (some (.int 0)) σ := by unfold b2i; split <;> rfl
theorem in2 {a : Int32} {n : Nat} {A B : Prop} (hN : n < 2 ^ 31) : (if a < 0 then A else if nI n ≤ a then A else B) = if mOut a n = false then B else A := by
  by_cases h : mOut a n = true
  · have e : (if mOut a n = false then B else A) = A := if_neg (by simp [h])
    rw [e]
    rcases (mOut_or hN).mp h with h1 | h1
    · rw [if_pos h1]
    · by_cases h2 : a < 0
      · rw [if_pos h2]
      · rw [if_neg h2, if_pos h1]
  · have e : (if mOut a n = false then B else A) = B := if_pos (by simpa using h)
    have h' := h
    rw [mOut_or hN] at h'
    rw [e, if_neg (fun q => h' (Or.inl q)), if_neg (fun q => h' (Or.inr q))]
theorem in3 {a : Int32} {n N : Nat} {A B : Prop} (h : n ≤ N) (hN : N < 2 ^ 31) : (if a < 0 then A else if nI n ≤ a then A else if nI N ≤ a then A else B) = if mOut a n = false then B else A := by
  have e : (if nI n ≤ a then A else if nI N ≤ a then A else B) = if nI n ≤ a then A else B := by
    by_cases h1 : nI n ≤ a
    · rw [if_pos h1, if_pos h1]
    · rw [if_neg h1, if_neg h1, if_neg (fun q => h1 (Int32.le_trans (nI_le h hN) q))]
  rw [e]
  exact in2 (by omega)
theorem Tw_hasPerson {E : mEn} {d : Nat} {σ : mSt} {Q : mPost} {a : Int32} {t np : Nat} (ht : isT t) (h : σ.1 t 13 = nI np) (hn : np ≤ 8) : WP E d mTw_hasPerson 0 [.ref t, .int a] [] σ Q = Q (some (.int (b2i (mOut a np = false)))) σ := by
  simp only [bTw_hasPerson_0, bTw_hasPerson_4, bTw_hasPerson_12, bTw_hasPerson_18, bTw_hasPerson_22, bTw_hasPerson_23, ht, h, eq_self, true_or, or_true, b2i_Q]
  exact in3 hn (by omega)
theorem Tw_hasLoaf {E : mEn} {d : Nat} {σ : mSt} {Q : mPost} {a : Int32} {t nl : Nat} (ht : isT t) (h : σ.1 t 15 = nI nl) (hn : nl ≤ 8) : WP E d mTw_hasLoaf 0 [.ref t, .int a] [] σ Q = Q (some (.int (b2i (mOut a nl = false)))) σ := by
  simp only [bTw_hasLoaf_0, bTw_hasLoaf_4, bTw_hasLoaf_12, bTw_hasLoaf_18, bTw_hasLoaf_22, bTw_hasLoaf_23, ht, h, eq_self, true_or, or_true, b2i_Q]
  exact in3 hn (by omega)
theorem Pr_has {E : mEn} {d : Nat} {σ : mSt} {Q : mPost} {a : Int32} {t nk : Nat} (ht : isT t) (h : σ.1 (t + 3) 8 = nI nk) (hn : nk ≤ 40) : WP E d mPr_has 0 [.ref (t + 3), .int a] [] σ Q = Q (some (.int (b2i (mOut a nk = false)))) σ := by
  simp only [bPr_has_0, bPr_has_4, bPr_has_12, bPr_has_18, bPr_has_22, bPr_has_23, ht, h, eq_self, true_or, or_true, b2i_Q]
  exact in3 hn (by omega)
theorem lg_lt {x y : Int64} : (lg_cmp x y < 0) = (x < y) := by
  unfold lg_cmp
  apply propext
  by_cases h : x > y
  · have : ¬ x < y := Int64.not_lt.mpr (Int64.le_of_lt h)
    simp [h, this]
  · by_cases h2 : x = y
    · subst h2; simp
    · have : x < y := by
        rcases Int64.lt_or_eq_of_le (Int64.not_lt.mp h) with q | q
        · exact q
        · exact absurd q h2
      simp [h, h2, this]
theorem lg_gt {x y : Int64} : (0 < lg_cmp x y) = (y < x) := by
  unfold lg_cmp
  apply propext
  by_cases h : x > y
  · have h' : y < x := h
    simp [h']
  · have h' : ¬ y < x := h
    by_cases h2 : x = y
    · subst h2; simp
    · simp [h, h2, h']
theorem Mo_isIn {E : mEn} {d : Nat} {σ : mSt} {Q : mPost} {x lo hi : Int64} : WP E d mMo_isIn 0 [.long x, uu, .long lo, uu, .long hi, uu] [] σ Q = Q (some (.int (b2i (¬ x < lo ∧ ¬ hi < x)))) σ := by
  simp only [bMo_isIn_0, bMo_isIn_6, bMo_isIn_13, bMo_isIn_17, bMo_isIn_18, eq_self, true_or, or_true, lg_lt, lg_gt, b2i_Q]
  (repeat' split) <;> simp_all only [not_true_eq_false, not_false_eq_true, and_self, and_true, true_and, and_false, false_and, or_true, true_or, or_false, false_or, or_self, if_true, if_false, ite_self, eq_self, Bool.false_eq_true, Bool.true_eq_false]
theorem l64 {a b : Int32} : (a.toInt64 < b.toInt64) = (a < b) := by
  apply propext
  rw [Int64.lt_iff_toInt_lt, Int32.lt_iff_toInt_lt, Int32.toInt_toInt64, Int32.toInt_toInt64]
theorem isIn0 {a : Int32} {n : Nat} (hn : n < 2 ^ 31) : (¬ a.toInt64 < 0 ∧ ¬ (nI n - 1).toInt64 < a.toInt64) ↔ mOut a n = false := by
  have e0 : (0 : Int64) = (0 : Int32).toInt64 := rfl
  rw [e0, l64, l64]
  have hb : mOut a n = false ↔ ¬ (mOut a n = true) := by simp
  rw [hb, mOut_or hn, not_or]
  constructor
  · intro ⟨h1, h2⟩
    refine ⟨h1, fun q => h2 ?_⟩
    obtain ⟨j, hj, rfl⟩ := nI_of h1
    have q2 := (nI_leI hn hj).mp q
    match n, hn, q2 with
    | 0, _, _ => exact Int32.lt_of_lt_of_le (by decide) (nI_pos' hj)
    | n + 1, hn, q2 => rw [nI_pred]; exact nI_lt (by omega) hj
  · intro ⟨h1, h2⟩
    refine ⟨h1, fun q => h2 ?_⟩
    obtain ⟨j, hj, rfl⟩ := nI_of h1
    match n, hn, q with
    | 0, _, _ => exact nI_pos' hj
    | n + 1, hn, q => rw [nI_pred] at q; exact nI_le (by have := (nI_ltI (by omega) hj).mp q; omega) hj
theorem Mo_isPersonAt {E : mEn} {d : Nat} {σ : mSt} {Q : mPost} {a : Int32} {np : Nat} (h : σ.1 171 0 = nI np) (hn : np ≤ 8) : WP E (d + 1) mMo_isPersonAt 0 [.ref 166, .int a] [] σ Q = Q (some (.int (b2i (mOut a np = false)))) σ := by
  rw [bMo_isPersonAt_0, if_neg (by decide), h, Mo_isIn, tl_s, bMo_isPersonAt_15 b2i_or, b2i_congr (isIn0 (by omega))]
theorem Mo_isLoafAt {E : mEn} {d : Nat} {σ : mSt} {Q : mPost} {a : Int32} {nl : Nat} (h : σ.1 171 2 = nI nl) (hn : nl ≤ 8) : WP E (d + 1) mMo_isLoafAt 0 [.ref 166, .int a] [] σ Q = Q (some (.int (b2i (mOut a nl = false)))) σ := by
  rw [bMo_isLoafAt_0, if_neg (by decide), h, Mo_isIn, tl_s, bMo_isLoafAt_15 b2i_or, b2i_congr (isIn0 (by omega))]
theorem Mo_isPromiseAt {E : mEn} {d : Nat} {σ : mSt} {Q : mPost} {a : Int32} {nk : Nat} (h : σ.1 171 3 = nI nk) (hn : nk ≤ 40) : WP E (d + 1) mMo_isPromiseAt 0 [.ref 166, .int a] [] σ Q = Q (some (.int (b2i (mOut a nk = false)))) σ := by
  rw [bMo_isPromiseAt_0, if_neg (by decide), h, Mo_isIn, tl_s, bMo_isPromiseAt_15 b2i_or, b2i_congr (isIn0 (by omega))]
