theorem To_takeWord {E : mEn} {d : Nat} {Q : mPost} {τ : mSt} {T : Nat → Int32} {n q k : Nat} (h : COk τ T n q) (hk : k < 28) (h1 : isW T n q k = true → ∀ υ, qt S6b τ υ → COk υ T n (bh T n q) → Q none υ) (h2 : ¬ isW T n q k = true → ∀ υ, qt S6b τ υ → CBad υ (er T n q) → Q none υ) : WP E (d + 2) mTo_takeWord 0 [.ref 6, .int (nI k)] [] τ Q := by
  rw [bTo_takeWord_0, To_isWord h hk, tl_s, bTo_takeWord_5]
  by_cases z : isW T n q k = true
  · rw [b2i_t z, if_neg i10, bTo_takeWord_8]
    refine To_adv h (fun υ q1 g => ?_)
    rw [tl_n, bTo_takeWord_12, bTo_takeWord_19]
    exact h1 z υ q1 g
  · rw [b2i_f z, if_pos rfl, bTo_takeWord_15]
    refine To_misplaced h (fun υ q1 g => ?_)
    rw [tl_n, bTo_takeWord_19]
    exact h2 z υ q1 g
theorem To_takeWord_b {E : mEn} {d : Nat} {Q : mPost} {τ : mSt} {k : Int32} (h : ¬ τ.1 6 9 = 0) : WP E (d + 2) mTo_takeWord 0 [.ref 6, .int k] [] τ Q = Q none τ := by
  rw [bTo_takeWord_0, To_isWord_b h, tl_s, bTo_takeWord_5, if_pos rfl, bTo_takeWord_15, To_misplaced_b h, tl_n, bTo_takeWord_19]
def isS (T : Nat → Int32) (n q x : Nat) : Bool := decide (kd T n q = 3) && decide (T (pl T n q) = nI x)
theorem To_takeSign {E : mEn} {d : Nat} {Q : mPost} {τ : mSt} {T : Nat → Int32} {n q x : Nat} (h : COk τ T n q) (h1 : isS T n q x = true → ∀ υ, qt S6b τ υ → COk υ T n (bh T n q) → Q none υ) (h2 : ¬ isS T n q x = true → ∀ υ, qt S6b τ υ → CBad υ (er T n q) → Q none υ) : WP E (d + 2) mTo_takeSign 0 [.ref 6, .int (nI x)] [] τ Q := by
  have := kd_le (T := T) (n := n) (q := q)
  have B : ¬ isS T n q x = true → WP E (d + 2) mTo_takeSign 30 [.ref 6, .int (nI x)] [] τ Q := fun z => by
    rw [bTo_takeSign_30]
    refine To_misplaced h (fun υ q1 g => ?_)
    rw [tl_n, bTo_takeSign_34]
    exact h2 z υ q1 g
  rw [bTo_takeSign_0, h.1, ite_nn rfl, bTo_takeSign_7, h.2.1.1]
  by_cases y : kd T n q = 3
  · rw [ite_nn (by rw [y]), bTo_takeSign_15, h.2.1.2.2.2.2.1 y]
    by_cases w : T (pl T n q) = nI x
    · rw [ite_nn w, bTo_takeSign_23]
      refine To_adv h (fun υ q1 g => ?_)
      rw [tl_n, bTo_takeSign_27, bTo_takeSign_34]
      exact h1 (by simp only [isS, y, w, decide_true, Bool.and_self]) υ q1 g
    · rw [if_pos w]
      exact B (by simp only [isS, decide_eq_false w, Bool.and_false, Bool.false_eq_true, not_false_eq_true])
  · rw [if_pos (show ¬ nI (kd T n q) = nI 3 from fun g => y ((nI_eq (by omega) (by omega)).mp g))]
    exact B (by simp only [isS, decide_eq_false y, Bool.false_and, Bool.false_eq_true, not_false_eq_true])
theorem To_takeSign_b {E : mEn} {d : Nat} {Q : mPost} {τ : mSt} {k : Int32} (h : ¬ τ.1 6 9 = 0) : WP E (d + 2) mTo_takeSign 0 [.ref 6, .int k] [] τ Q = Q none τ := by
  rw [bTo_takeSign_0, if_pos h, bTo_takeSign_30, To_misplaced_b h, tl_n, bTo_takeSign_34]
/-- a number from lo to hi is taken, or a fault -/
def pNum (T : Nat → Int32) (n lo hi q : Nat) : Except (Nat × Nat) (Nat × Nat) := if kd T n q = 2 then (if lo ≤ nmb T n q ∧ nmb T n q ≤ hi then .ok (nmb T n q, bh T n q) else .error (4, pl T n q)) else .error (er T n q)
theorem To_takeNumber {E : mEn} {d : Nat} {Q : mPost} {τ : mSt} {T : Nat → Int32} {n q lo hi : Nat} {u : Value} (h : COk τ T n q) (hlo : lo < 2 ^ 31) (hhi : hi < 2 ^ 31) (h1 : ∀ v q', pNum T n lo hi q = .ok (v, q') → ∀ υ, qt S6b τ υ → COk υ T n q' → Q (some (.int (nI v))) υ) (h2 : ∀ e, pNum T n lo hi q = .error e → ∀ υ, qt S6b τ υ → CBad υ e → Q (some (.int (-1))) υ) : WP E (d + 2) mTo_takeNumber 0 [.ref 6, .int (nI lo), .int (nI hi), u] [] τ Q := by
  have := kd_le (T := T) (n := n) (q := q)
  rw [bTo_takeNumber_0, h.1, ite_nn rfl, bTo_takeNumber_7, h.2.1.1]
  unfold pNum at h1 h2
  by_cases y : kd T n q = 2
  · have hb := kd_2 y
    have e7 : τ.1 6 7 = nI (nmb T n q) := h.2.1.2.2.2.1 y
    rw [if_pos (by rw [y]), bTo_takeNumber_21, e7]
    rw [if_pos y] at h1 h2
    have B : ¬ (lo ≤ nmb T n q ∧ nmb T n q ≤ hi) → WP E (d + 2) mTo_takeNumber 37 [.ref 6, .int (nI lo), .int (nI hi), u] [] τ Q := fun z => by
      rw [if_neg z] at h2
      rw [bTo_takeNumber_37]
      refine To_blame h (by omega) (by omega) (fun υ q1 g => ?_)
      rw [tl_n, bTo_takeNumber_42]
      exact h2 _ rfl υ q1 g
    by_cases z1 : nmb T n q < lo
    · rw [if_pos (nI_lt z1 hlo)]
      exact B (by omega)
    · rw [if_neg (nI_nlt (by omega) (by omega)), bTo_takeNumber_29, e7]
      by_cases z2 : nmb T n q ≤ hi
      · rw [if_pos (nI_le z2 hhi), bTo_takeNumber_44, e7]
        rw [if_pos ⟨by omega, z2⟩] at h1
        refine To_adv h (fun υ q1 g => ?_)
        rw [tl_n, bTo_takeNumber_53]
        exact h1 _ _ rfl υ q1 g
      · rw [if_neg (nI_ge (by omega) (by omega))]
        exact B (by omega)
  · rw [if_neg (show ¬ nI (kd T n q) = nI 2 from fun g => y ((nI_eq (by omega) (by omega)).mp g)), bTo_takeNumber_15]
    rw [if_neg y] at h2
    refine To_misplaced h (fun υ q1 g => ?_)
    rw [tl_n, bTo_takeNumber_19]
    exact h2 _ rfl υ q1 g
theorem To_takeNumber_b {E : mEn} {d : Nat} {Q : mPost} {τ : mSt} {a b : Int32} {u : Value} (h : ¬ τ.1 6 9 = 0) : WP E (d + 2) mTo_takeNumber 0 [.ref 6, .int a, .int b, u] [] τ Q = Q (some (.int (-1))) τ := by
  rw [bTo_takeNumber_0, if_pos h, bTo_takeNumber_15, To_misplaced_b h, tl_n, bTo_takeNumber_19]
theorem To_skips {E : mEn} {d : Nat} {Q : mPost} {τ : mSt} {T : Nat → Int32} {n q k : Nat} {u : Value} (h : COk τ T n q) (hk : k < 28) (h1 : isW T n q k = true → ∀ υ, qt S6b τ υ → COk υ T n (bh T n q) → Q (some (.int 1)) υ) (h2 : ¬ isW T n q k = true → Q (some (.int 0)) τ) : WP E (d + 2) mTo_skips 0 [.ref 6, .int (nI k), u] [] τ Q := by
  rw [bTo_skips_0, To_isWord h hk, tl_s, bTo_skips_5]
  by_cases z : isW T n q k = true
  · rw [b2i_t z, if_neg i10, bTo_skips_10]
    refine To_adv h (fun υ q1 g => ?_)
    rw [tl_n, bTo_skips_14 (Or.inr rfl)]
    exact h1 z υ q1 g
  · rw [b2i_f z, if_pos rfl, bTo_skips_14 (Or.inl rfl)]
    exact h2 z
theorem To_skips_b {E : mEn} {d : Nat} {Q : mPost} {τ : mSt} {k : Int32} {u : Value} (h : ¬ τ.1 6 9 = 0) : WP E (d + 2) mTo_skips 0 [.ref 6, .int k, u] [] τ Q = Q (some (.int 0)) τ := by
  rw [bTo_skips_0, To_isWord_b h, tl_s, bTo_skips_5, if_pos rfl, bTo_skips_14 (Or.inl rfl)]
theorem To_goesOn {E : mEn} {d : Nat} {Q : mPost} {τ : mSt} {T : Nat → Int32} {n q : Nat} (h : COk τ T n q) : WP E d mTo_goesOn 0 [.ref 6] [] τ Q = Q (some (.int (b2i (¬ kd T n q = 0)))) τ := by
  have := kd_le (T := T) (n := n) (q := q)
  rw [bTo_goesOn_0, h.1, ite_nn rfl, bTo_goesOn_7, h.2.1.1]
  by_cases z : kd T n q = 0
  · rw [if_pos (by rw [z]; rfl), bTo_goesOn_18, bTo_goesOn_19 (Or.inl rfl), b2i_f (fun g => g z)]
  · rw [if_neg (show ¬ nI (kd T n q) = 0 from fun g => z ((nI_eq (b := 0) (by omega) (by omega)).mp g)), bTo_goesOn_14, bTo_goesOn_19 (Or.inr rfl), b2i_t z]
theorem To_goesOn_b {E : mEn} {d : Nat} {Q : mPost} {τ : mSt} (h : ¬ τ.1 6 9 = 0) : WP E d mTo_goesOn 0 [.ref 6] [] τ Q = Q (some (.int 0)) τ := by
  rw [bTo_goesOn_0, if_pos h, bTo_goesOn_18, bTo_goesOn_19 (Or.inl rfl)]
/-- the first keyword from i on that is x -/
def whf (x : Int64) : Nat → Nat → Int32
  | 0, _ => -1
  | f + 1, i => if kwV.getD i 0 = x then nI i else whf x f (i + 1)
theorem To_wordHere_loop {E : mEn} {d : Nat} {Q : mPost} {τ : mSt} (hk : RKw τ) : ∀ f i, i + f = 28 → WP E d mTo_wordHere 19 [.ref 6, .int (nI i)] [] τ Q = Q (some (.int (whf (τ.2 6 8) f i))) τ
  | 0, i, e => by
    have e' : i = 28 := by omega
    subst e'
    rw [bTo_wordHere_19, if_pos (Int32.le_refl _), bTo_wordHere_50]; rfl
  | f + 1, i, e => by
    rw [bTo_wordHere_19, if_neg (nI_ge (by omega) (by omega)), bTo_wordHere_28, mOut_f (by omega) (by omega), nI_clamp (by omega), hk i (by omega), if_neg (by decide), whf]
    by_cases z : kwV.getD i 0 = τ.2 6 8
    · rw [ite_nn (by rw [lg_eq0]; exact z), bTo_wordHere_42, if_pos z]
    · rw [if_pos (by rw [lg_eq0]; exact z), bTo_wordHere_44, nI_1, if_neg z]
      exact To_wordHere_loop hk f (i + 1) (by omega)
def wH (T : Nat → Int32) (n q : Nat) : Int32 := if kd T n q = 1 then whf (nmL T n q) 28 0 else -1
theorem To_wordHere {E : mEn} {d : Nat} {Q : mPost} {τ : mSt} {T : Nat → Int32} {n q : Nat} {u : Value} (h : COk τ T n q) : WP E d mTo_wordHere 0 [.ref 6, u] [] τ Q = Q (some (.int (wH T n q))) τ := by
  have := kd_le (T := T) (n := n) (q := q)
  unfold wH
  rw [bTo_wordHere_0, h.1, ite_nn rfl, bTo_wordHere_7, h.2.1.1]
  by_cases z : kd T n q = 1
  · rw [if_pos (by rw [z]; rfl), bTo_wordHere_17, show (0 : Int32) = nI 0 from rfl, To_wordHere_loop h.2.2.2.2.1 28 0 (by omega), if_pos z, h.2.1.2.2.2.2.2 z]; rfl
  · rw [if_neg (show ¬ nI (kd T n q) = 1 from fun g => z ((nI_eq (b := 1) (by omega) (by omega)).mp g)), bTo_wordHere_15, if_neg z]
theorem To_wordHere_b {E : mEn} {d : Nat} {Q : mPost} {τ : mSt} {u : Value} (h : ¬ τ.1 6 9 = 0) : WP E d mTo_wordHere 0 [.ref 6, u] [] τ Q = Q (some (.int (-1))) τ := by
  rw [bTo_wordHere_0, if_pos h, bTo_wordHere_15]
def isN (T : Nat → Int32) (n q : Nat) : Bool := decide (kd T n q = 1) && !decide (nmL T n q = 0) && decide (wH T n q = -1)
theorem To_seesName {E : mEn} {d : Nat} {Q : mPost} {τ : mSt} {T : Nat → Int32} {n q : Nat} (h : COk τ T n q) (h1 : isN T n q = true → Q (some (.int 1)) τ) (h2 : ¬ isN T n q = true → ∀ υ, qt S6b τ υ → CBad υ (er T n q) → Q (some (.int 0)) υ) : WP E (d + 2) mTo_seesName 0 [.ref 6] [] τ Q := by
  have := kd_le (T := T) (n := n) (q := q)
  have B : ¬ isN T n q = true → WP E (d + 2) mTo_seesName 32 [.ref 6] [] τ Q := fun z => by
    rw [bTo_seesName_32]
    refine To_misplaced h (fun υ q1 g => ?_)
    rw [tl_n, bTo_seesName_36]
    exact h2 z υ q1 g
  rw [bTo_seesName_0, h.1, ite_nn rfl, bTo_seesName_7, h.2.1.1]
  by_cases z : kd T n q = 1
  · rw [ite_nn (by rw [z]; rfl), bTo_seesName_15, show τ.2 6 8 = nmL T n q from h.2.1.2.2.2.2.2 z]
    by_cases y : nmL T n q = 0
    · rw [if_pos (by rw [lg_eq0]; exact y)]
      exact B (by simp [isN, y])
    · rw [if_neg (by rw [lg_eq0]; exact y), bTo_seesName_24, To_wordHere h, tl_s, bTo_seesName_28]
      by_cases w : wH T n q = -1
      · rw [if_pos w, bTo_seesName_38]
        exact h1 (by simp [isN, z, y, w])
      · rw [if_neg w]
        exact B (by simp [isN, w])
  · rw [if_pos (show ¬ nI (kd T n q) = 1 from fun g => z ((nI_eq (b := 1) (by omega) (by omega)).mp g))]
    exact B (by simp [isN, z])
theorem To_seesName_b {E : mEn} {d : Nat} {Q : mPost} {τ : mSt} (h : ¬ τ.1 6 9 = 0) : WP E (d + 2) mTo_seesName 0 [.ref 6] [] τ Q = Q (some (.int 0)) τ := by
  rw [bTo_seesName_0, if_pos h, bTo_seesName_32, To_misplaced_b h, tl_n, bTo_seesName_36]
