/-- what p HOLDS of loaf l by the first k promises of the row c -/
def hF (c : Nat → Int32) (l p : Nat) : Nat → Int32
  | 0 => if c (34 + l) = nI p then c (58 + l) else 0
  | k + 1 => if c (82 + 6 * k + 5) = 0 ∧ c (82 + 6 * k + 1) = nI l then hF c l p k + (if c (82 + 6 * k + 3) = nI p then c (82 + 6 * k) else 0) - (if c (82 + 6 * k + 2) = nI p then c (82 + 6 * k) else 0) else hF c l p k
/-- promise k is one of loaf l to p -/
def toP (c : Nat → Int32) (l p k : Nat) : Prop := c (82 + 6 * k + 5) = 0 ∧ c (82 + 6 * k + 1) = nI l ∧ c (82 + 6 * k + 3) = nI p
/-- the first of the first k promises that is one of loaf l to p; 40 without -/
def fI (c : Nat → Int32) (l p : Nat) : Nat → Nat
  | 0 => 40
  | k + 1 => if fI c l p k < 40 then fI c l p k else if c (82 + 6 * k + 5) = 0 ∧ c (82 + 6 * k + 1) = nI l ∧ c (82 + 6 * k + 3) = nI p then k else 40
def snc (c : Nat → Int32) (l p nk : Nat) : Int32 := if c (34 + l) = nI p then -1 else nI (fI c l p nk)
def trn (c : Nat → Int32) (l p nk : Nat) : Int32 := if c (34 + l) = nI p then -1 else if fI c l p nk < 40 then nI (fI c l p nk) else 1000000
theorem fI_le {c : Nat → Int32} {l p : Nat} : ∀ k, k ≤ 40 → fI c l p k < k ∨ fI c l p k = 40
  | 0, _ => Or.inr rfl
  | k + 1, h => by
    unfold fI
    rcases fI_le (c := c) (l := l) (p := p) k (by omega) with g | g
    · rw [if_pos (by omega)]; left; omega
    · rw [if_neg (by omega)]
      split
      · left; omega
      · right; rfl
theorem fI_st {c : Nat → Int32} {l p : Nat} {k : Nat} (h : fI c l p k < 40) : ∀ j, fI c l p (k + j) = fI c l p k
  | 0 => rfl
  | j + 1 => by
    have e := fI_st h j
    show fI c l p ((k + j) + 1) = _
    rw [fI, e, if_pos h]
theorem big_nI : (1000000 : Int32) = nI 1000000 := rfl
theorem trn_le {c : Nat → Int32} {l p q nk : Nat} (h : nk ≤ 40) : (trn c l p nk ≤ trn c l q nk) = (snc c l p nk ≤ snc c l q nk) := by
  apply propext
  have hp := fI_le (c := c) (l := l) (p := p) nk h
  have hq := fI_le (c := c) (l := l) (p := q) nk h
  unfold trn snc
  rw [big_nI]
  have m1 : ∀ n, n < 2 ^ 31 → (-1 : Int32) ≤ nI n := fun n hn => Int32.le_trans (by decide) (nI_pos' hn)
  have m2 : ∀ n, n < 2 ^ 31 → ¬ nI n ≤ (-1 : Int32) := fun n hn q => absurd (Int32.le_trans (nI_pos' hn) q) (by decide)
  by_cases a1 : c (34 + l) = nI p <;> by_cases a2 : c (34 + l) = nI q
  · rw [if_pos a1, if_pos a1, if_pos a2, if_pos a2]
  · rw [if_pos a1, if_pos a1, if_neg a2, if_neg a2]
    split
    · exact ⟨fun _ => m1 _ (by omega), fun _ => m1 _ (by omega)⟩
    · exact ⟨fun _ => m1 _ (by omega), fun _ => m1 _ (by omega)⟩
  · rw [if_neg a1, if_neg a1, if_pos a2, if_pos a2]
    split
    · exact ⟨fun g => absurd g (m2 _ (by omega)), fun g => absurd g (m2 _ (by omega))⟩
    · exact ⟨fun g => absurd g (m2 _ (by omega)), fun g => absurd g (m2 _ (by omega))⟩
  · rw [if_neg a1, if_neg a1, if_neg a2, if_neg a2]
    split <;> split
    · rfl
    · rw [nI_leI (by omega) (by omega), nI_leI (by omega) (by omega)]; omega
    · rw [nI_leI (by omega) (by omega), nI_leI (by omega) (by omega)]; omega
    · rw [nI_leI (by omega) (by omega), nI_leI (by omega) (by omega)]; omega
theorem Mo_hold_loop {E : mEn} {d : Nat} {σ : mSt} {Q : mPost} {l p nk : Nat} (hl : l < 8) (hp : p < 8) (hk : σ.1 171 3 = nI nk) (hn : nk ≤ 40) : ∀ (j k : Nat) (n : Int32), k + j = nk → n = hF (σ.1 171) l p k → WP E (d + 3) mMo_holdsOf 30 [.ref 166, .int (nI p), .int (nI l), .int n, .int (nI k)] [] σ Q = Q (some (.int (hF (σ.1 171) l p nk))) σ
  | 0, k, n, h, e => by
    have e2 : k = nk := by omega
    rw [bMo_holdsOf_30, mOut_f (by omega) (by omega), hk, if_neg (by decide), if_pos (nI_le (by omega) (by omega)), bMo_holdsOf_126, e, e2]
  | j + 1, k, n, h, e => by
    rw [bMo_holdsOf_30, mOut_f (by omega) (by omega), hk, if_neg (by decide), if_neg (nI_ge (by omega) (by omega))]
    by_cases h1 : σ.1 171 (82 + 6 * k + 5) = 0 ∧ σ.1 171 (82 + 6 * k + 1) = nI l
    · by_cases h3 : σ.1 171 (82 + 6 * k + 3) = nI p <;> by_cases h2 : σ.1 171 (82 + 6 * k + 2) = nI p
      · simp (disch := first | omega | assumption | exact b2i_or | exact T10 | exact Or.inl rfl | exact Or.inr rfl) only [bMo_holdsOf_0, bMo_holdsOf_13, bMo_holdsOf_25, bMo_holdsOf_26, bMo_holdsOf_41, bMo_holdsOf_48, bMo_holdsOf_51, bMo_holdsOf_54, bMo_holdsOf_64, bMo_holdsOf_71, bMo_holdsOf_80, bMo_holdsOf_84, bMo_holdsOf_85, bMo_holdsOf_97, bMo_holdsOf_104, bMo_holdsOf_113, bMo_holdsOf_117, bMo_holdsOf_118, bMo_holdsOf_120, bMo_holdsOf_126, Mo_isOfLoaf (show k < 40 by omega), b2i_t h1, i10, Mo_part, tl_s, nI_add, nI_1, pk_mul, mOut_f, nI_clamp, h3, h2, not_true_eq_false, not_false_eq_true, and_self, and_true, true_and, and_false, false_and, or_true, true_or, or_false, false_or, or_self, if_true, if_false, ite_self, eq_self, Bool.false_eq_true, Bool.true_eq_false]
        exact Mo_hold_loop hl hp hk hn j (k + 1) _ (by omega) (by simp only [hF, h1, h2, h3, e, not_true_eq_false, not_false_eq_true, and_self, and_true, true_and, and_false, false_and, or_true, true_or, or_false, false_or, or_self, if_true, if_false, ite_self, eq_self, Bool.false_eq_true, Bool.true_eq_false])
      · simp (disch := first | omega | assumption | exact b2i_or | exact T10 | exact Or.inl rfl | exact Or.inr rfl) only [bMo_holdsOf_0, bMo_holdsOf_13, bMo_holdsOf_25, bMo_holdsOf_26, bMo_holdsOf_41, bMo_holdsOf_48, bMo_holdsOf_51, bMo_holdsOf_54, bMo_holdsOf_64, bMo_holdsOf_71, bMo_holdsOf_80, bMo_holdsOf_84, bMo_holdsOf_85, bMo_holdsOf_97, bMo_holdsOf_104, bMo_holdsOf_113, bMo_holdsOf_117, bMo_holdsOf_118, bMo_holdsOf_120, bMo_holdsOf_126, Mo_isOfLoaf (show k < 40 by omega), b2i_t h1, i10, Mo_part, tl_s, nI_add, nI_1, pk_mul, mOut_f, nI_clamp, h3, h2, not_true_eq_false, not_false_eq_true, and_self, and_true, true_and, and_false, false_and, or_true, true_or, or_false, false_or, or_self, if_true, if_false, ite_self, eq_self, Bool.false_eq_true, Bool.true_eq_false]
        exact Mo_hold_loop hl hp hk hn j (k + 1) _ (by omega) (by simp only [hF, h1, h2, h3, e, not_true_eq_false, not_false_eq_true, and_self, and_true, true_and, and_false, false_and, or_true, true_or, or_false, false_or, or_self, if_true, if_false, ite_self, eq_self, Bool.false_eq_true, Bool.true_eq_false])
      · simp (disch := first | omega | assumption | exact b2i_or | exact T10 | exact Or.inl rfl | exact Or.inr rfl) only [bMo_holdsOf_0, bMo_holdsOf_13, bMo_holdsOf_25, bMo_holdsOf_26, bMo_holdsOf_41, bMo_holdsOf_48, bMo_holdsOf_51, bMo_holdsOf_54, bMo_holdsOf_64, bMo_holdsOf_71, bMo_holdsOf_80, bMo_holdsOf_84, bMo_holdsOf_85, bMo_holdsOf_97, bMo_holdsOf_104, bMo_holdsOf_113, bMo_holdsOf_117, bMo_holdsOf_118, bMo_holdsOf_120, bMo_holdsOf_126, Mo_isOfLoaf (show k < 40 by omega), b2i_t h1, i10, Mo_part, tl_s, nI_add, nI_1, pk_mul, mOut_f, nI_clamp, h3, h2, not_true_eq_false, not_false_eq_true, and_self, and_true, true_and, and_false, false_and, or_true, true_or, or_false, false_or, or_self, if_true, if_false, ite_self, eq_self, Bool.false_eq_true, Bool.true_eq_false]
        exact Mo_hold_loop hl hp hk hn j (k + 1) _ (by omega) (by simp only [hF, h1, h2, h3, e, not_true_eq_false, not_false_eq_true, and_self, and_true, true_and, and_false, false_and, or_true, true_or, or_false, false_or, or_self, if_true, if_false, ite_self, eq_self, Bool.false_eq_true, Bool.true_eq_false])
      · simp (disch := first | omega | assumption | exact b2i_or | exact T10 | exact Or.inl rfl | exact Or.inr rfl) only [bMo_holdsOf_0, bMo_holdsOf_13, bMo_holdsOf_25, bMo_holdsOf_26, bMo_holdsOf_41, bMo_holdsOf_48, bMo_holdsOf_51, bMo_holdsOf_54, bMo_holdsOf_64, bMo_holdsOf_71, bMo_holdsOf_80, bMo_holdsOf_84, bMo_holdsOf_85, bMo_holdsOf_97, bMo_holdsOf_104, bMo_holdsOf_113, bMo_holdsOf_117, bMo_holdsOf_118, bMo_holdsOf_120, bMo_holdsOf_126, Mo_isOfLoaf (show k < 40 by omega), b2i_t h1, i10, Mo_part, tl_s, nI_add, nI_1, pk_mul, mOut_f, nI_clamp, h3, h2, not_true_eq_false, not_false_eq_true, and_self, and_true, true_and, and_false, false_and, or_true, true_or, or_false, false_or, or_self, if_true, if_false, ite_self, eq_self, Bool.false_eq_true, Bool.true_eq_false]
        exact Mo_hold_loop hl hp hk hn j (k + 1) _ (by omega) (by simp only [hF, h1, h2, h3, e, not_true_eq_false, not_false_eq_true, and_self, and_true, true_and, and_false, false_and, or_true, true_or, or_false, false_or, or_self, if_true, if_false, ite_self, eq_self, Bool.false_eq_true, Bool.true_eq_false])
    · simp (disch := first | omega | assumption | exact b2i_or | exact T10 | exact Or.inl rfl | exact Or.inr rfl) only [bMo_holdsOf_0, bMo_holdsOf_13, bMo_holdsOf_25, bMo_holdsOf_26, bMo_holdsOf_41, bMo_holdsOf_48, bMo_holdsOf_51, bMo_holdsOf_54, bMo_holdsOf_64, bMo_holdsOf_71, bMo_holdsOf_80, bMo_holdsOf_84, bMo_holdsOf_85, bMo_holdsOf_97, bMo_holdsOf_104, bMo_holdsOf_113, bMo_holdsOf_117, bMo_holdsOf_118, bMo_holdsOf_120, bMo_holdsOf_126, Mo_isOfLoaf (show k < 40 by omega), b2i_f h1, tl_s, nI_1, not_true_eq_false, not_false_eq_true, and_self, and_true, true_and, and_false, false_and, or_true, true_or, or_false, false_or, or_self, if_true, if_false, ite_self, eq_self, Bool.false_eq_true, Bool.true_eq_false]
      exact Mo_hold_loop hl hp hk hn j (k + 1) _ (by omega) (by rw [hF, if_neg h1, e])
theorem Mo_holdsOf {E : mEn} {d : Nat} {σ : mSt} {Q : mPost} {l p nk : Nat} {u1 u2 : Value} (hl : l < 8) (hp : p < 8) (hk : σ.1 171 3 = nI nk) (hn : nk ≤ 40) : WP E (d + 3) mMo_holdsOf 0 [.ref 166, .int (nI p), .int (nI l), u1, u2] [] σ Q = Q (some (.int (hF (σ.1 171) l p nk))) σ := by
  by_cases h : σ.1 171 (34 + l) = nI p
  · simp (disch := first | omega | assumption | exact b2i_or | exact T10 | exact Or.inl rfl | exact Or.inr rfl) only [bMo_holdsOf_0, bMo_holdsOf_13, bMo_holdsOf_25, bMo_holdsOf_26, bMo_holdsOf_41, bMo_holdsOf_48, bMo_holdsOf_51, bMo_holdsOf_54, bMo_holdsOf_64, bMo_holdsOf_71, bMo_holdsOf_80, bMo_holdsOf_84, bMo_holdsOf_85, bMo_holdsOf_97, bMo_holdsOf_104, bMo_holdsOf_113, bMo_holdsOf_117, bMo_holdsOf_118, bMo_holdsOf_120, bMo_holdsOf_126, nI_add, nI_1, pk_mul, mOut_f, nI_clamp, h, not_true_eq_false, not_false_eq_true, and_self, and_true, true_and, and_false, false_and, or_true, true_or, or_false, false_or, or_self, if_true, if_false, ite_self, eq_self, Bool.false_eq_true, Bool.true_eq_false]
    exact Mo_hold_loop hl hp hk hn nk 0 _ (by omega) (by simp only [hF, h, not_true_eq_false, not_false_eq_true, and_self, and_true, true_and, and_false, false_and, or_true, true_or, or_false, false_or, or_self, if_true, if_false, ite_self, eq_self, Bool.false_eq_true, Bool.true_eq_false])
  · simp (disch := first | omega | assumption | exact b2i_or | exact T10 | exact Or.inl rfl | exact Or.inr rfl) only [bMo_holdsOf_0, bMo_holdsOf_13, bMo_holdsOf_25, bMo_holdsOf_26, bMo_holdsOf_41, bMo_holdsOf_48, bMo_holdsOf_51, bMo_holdsOf_54, bMo_holdsOf_64, bMo_holdsOf_71, bMo_holdsOf_80, bMo_holdsOf_84, bMo_holdsOf_85, bMo_holdsOf_97, bMo_holdsOf_104, bMo_holdsOf_113, bMo_holdsOf_117, bMo_holdsOf_118, bMo_holdsOf_120, bMo_holdsOf_126, nI_add, nI_1, pk_mul, mOut_f, nI_clamp, h, not_true_eq_false, not_false_eq_true, and_self, and_true, true_and, and_false, false_and, or_true, true_or, or_false, false_or, or_self, if_true, if_false, ite_self, eq_self, Bool.false_eq_true, Bool.true_eq_false]
    exact Mo_hold_loop hl hp hk hn nk 0 _ (by omega) (by simp only [hF, h, not_true_eq_false, not_false_eq_true, and_self, and_true, true_and, and_false, false_and, or_true, true_or, or_false, false_or, or_self, if_true, if_false, ite_self, eq_self, Bool.false_eq_true, Bool.true_eq_false])
theorem Mo_turn_loop {E : mEn} {d : Nat} {σ : mSt} {Q : mPost} {l p nk : Nat} (hl : l < 8) (hp : p < 8) (hk : σ.1 171 3 = nI nk) (hn : nk ≤ 40) : ∀ (j k : Nat), k + j = nk → fI (σ.1 171) l p k = 40 → WP E (d + 3) mMo_turnOf 17 [.ref 166, .int (nI p), .int (nI l), .int (nI k)] [] σ Q = Q (some (.int (if fI (σ.1 171) l p nk < 40 then nI (fI (σ.1 171) l p nk) else 1000000))) σ
  | 0, k, h, e => by
    have e2 : k = nk := by omega
    subst e2
    rw [bMo_turnOf_17, mOut_f (by omega) (by omega), hk, if_neg (by decide), if_pos (nI_le (by omega) (by omega)), bMo_turnOf_59, e, if_neg (by omega)]
  | j + 1, k, h, e => by
    rw [bMo_turnOf_17, mOut_f (by omega) (by omega), hk, if_neg (by decide), if_neg (nI_ge (by omega) (by omega))]
    by_cases h1 : σ.1 171 (82 + 6 * k + 5) = 0 ∧ σ.1 171 (82 + 6 * k + 1) = nI l
    · by_cases h3 : σ.1 171 (82 + 6 * k + 3) = nI p
      · have e1 : fI (σ.1 171) l p (k + 1) = k := by rw [fI, if_neg (by omega), if_pos ⟨h1.1, h1.2, h3⟩]
        have e2 : fI (σ.1 171) l p nk = k := by
          have := fI_st (c := σ.1 171) (l := l) (p := p) (k := k + 1) (by omega) j
          rw [show k + 1 + j = nk by omega, e1] at this; exact this
        simp (disch := first | omega | assumption | exact b2i_or | exact T10 | exact Or.inl rfl | exact Or.inr rfl) only [bMo_turnOf_0, bMo_turnOf_13, bMo_turnOf_15, bMo_turnOf_27, bMo_turnOf_33, bMo_turnOf_36, bMo_turnOf_44, bMo_turnOf_51, bMo_turnOf_53, bMo_turnOf_59, Mo_isOfLoaf (show k < 40 by omega), b2i_t h1, i10, Mo_part, tl_s, nI_add, nI_1, pk_mul, mOut_f, nI_clamp, h3, e2, show k < 40 by omega, not_true_eq_false, not_false_eq_true, and_self, and_true, true_and, and_false, false_and, or_true, true_or, or_false, false_or, or_self, if_true, if_false, ite_self, eq_self, Bool.false_eq_true, Bool.true_eq_false]
      · have e1 : fI (σ.1 171) l p (k + 1) = 40 := by rw [fI, if_neg (by omega), if_neg (fun g => h3 g.2.2)]
        simp (disch := first | omega | assumption | exact b2i_or | exact T10 | exact Or.inl rfl | exact Or.inr rfl) only [bMo_turnOf_0, bMo_turnOf_13, bMo_turnOf_15, bMo_turnOf_27, bMo_turnOf_33, bMo_turnOf_36, bMo_turnOf_44, bMo_turnOf_51, bMo_turnOf_53, bMo_turnOf_59, Mo_isOfLoaf (show k < 40 by omega), b2i_t h1, i10, Mo_part, tl_s, nI_add, nI_1, pk_mul, mOut_f, nI_clamp, h3, not_true_eq_false, not_false_eq_true, and_self, and_true, true_and, and_false, false_and, or_true, true_or, or_false, false_or, or_self, if_true, if_false, ite_self, eq_self, Bool.false_eq_true, Bool.true_eq_false]
        exact Mo_turn_loop hl hp hk hn j (k + 1) (by omega) e1
    · have e1 : fI (σ.1 171) l p (k + 1) = 40 := by rw [fI, if_neg (by omega), if_neg (fun g => h1 ⟨g.1, g.2.1⟩)]
      simp (disch := first | omega | assumption | exact b2i_or | exact T10 | exact Or.inl rfl | exact Or.inr rfl) only [bMo_turnOf_0, bMo_turnOf_13, bMo_turnOf_15, bMo_turnOf_27, bMo_turnOf_33, bMo_turnOf_36, bMo_turnOf_44, bMo_turnOf_51, bMo_turnOf_53, bMo_turnOf_59, Mo_isOfLoaf (show k < 40 by omega), b2i_f h1, tl_s, nI_1, not_true_eq_false, not_false_eq_true, and_self, and_true, true_and, and_false, false_and, or_true, true_or, or_false, false_or, or_self, if_true, if_false, ite_self, eq_self, Bool.false_eq_true, Bool.true_eq_false]
      exact Mo_turn_loop hl hp hk hn j (k + 1) (by omega) e1
theorem Mo_turnOf {E : mEn} {d : Nat} {σ : mSt} {Q : mPost} {l p nk : Nat} {u : Value} (hl : l < 8) (hp : p < 8) (hk : σ.1 171 3 = nI nk) (hn : nk ≤ 40) : WP E (d + 3) mMo_turnOf 0 [.ref 166, .int (nI p), .int (nI l), u] [] σ Q = Q (some (.int (trn (σ.1 171) l p nk))) σ := by
  by_cases h : σ.1 171 (34 + l) = nI p
  · simp (disch := first | omega | assumption | exact b2i_or | exact T10 | exact Or.inl rfl | exact Or.inr rfl) only [bMo_turnOf_0, bMo_turnOf_13, bMo_turnOf_15, bMo_turnOf_27, bMo_turnOf_33, bMo_turnOf_36, bMo_turnOf_44, bMo_turnOf_51, bMo_turnOf_53, bMo_turnOf_59, nI_add, nI_1, pk_mul, mOut_f, nI_clamp, h, trn, not_true_eq_false, not_false_eq_true, and_self, and_true, true_and, and_false, false_and, or_true, true_or, or_false, false_or, or_self, if_true, if_false, ite_self, eq_self, Bool.false_eq_true, Bool.true_eq_false]
  · simp (disch := first | omega | assumption | exact b2i_or | exact T10 | exact Or.inl rfl | exact Or.inr rfl) only [bMo_turnOf_0, bMo_turnOf_13, bMo_turnOf_15, bMo_turnOf_27, bMo_turnOf_33, bMo_turnOf_36, bMo_turnOf_44, bMo_turnOf_51, bMo_turnOf_53, bMo_turnOf_59, nI_add, nI_1, pk_mul, mOut_f, nI_clamp, h, trn, not_true_eq_false, not_false_eq_true, and_self, and_true, true_and, and_false, false_and, or_true, true_or, or_false, false_or, or_self, if_true, if_false, ite_self, eq_self, Bool.false_eq_true, Bool.true_eq_false]
    exact Mo_turn_loop hl hp hk hn nk 0 (by omega) rfl
