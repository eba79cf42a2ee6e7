/-! what the class takes from a text -/
theorem lg_eq0 {x y : Int64} : (lg_cmp x y = 0) = (x = y) := by
  apply propext
  constructor
  · intro g
    have a : ¬ x < y := by rw [← lg_lt, g]; decide
    have b : ¬ y < x := by rw [← lg_gt, g]; decide
    exact Int64.le_antisymm (Int64.not_lt.mp b) (Int64.not_lt.mp a)
  · intro g
    subst g
    unfold lg_cmp
    simp
theorem rn_all {p : Int32 → Bool} {T : Nat → Int32} : ∀ f i j, i ≤ j → j < rn p T f i → p (T j) = true
  | 0, i, j, h1, h2 => absurd h2 (by rw [rn]; omega)
  | f + 1, i, j, h1, h2 => by
    rw [rn] at h2
    by_cases z : p (T i) = true
    · rw [if_pos z] at h2
      by_cases y : i = j
      · subst y; exact z
      · exact rn_all f (i + 1) j (by omega) h2
    · rw [if_neg z] at h2; omega
theorem rn_gt {p : Int32 → Bool} {T : Nat → Int32} {f i : Nat} (h : 0 < f) (z : p (T i) = true) : i < rn p T f i := by
  obtain ⟨g, rfl⟩ : ∃ g, f = g + 1 := ⟨f - 1, by omega⟩
  rw [rn, if_pos z]
  have := rn_ge (p := p) (T := T) g (i + 1)
  omega
theorem bh_le {T : Nat → Int32} {n q : Nat} (h : q ≤ n) : bh T n q ≤ n := by
  have p1 := pl_le (T := T) h
  have w1 := wE_le p1
  have v1 := dE_le p1
  unfold bh
  split
  · omega
  · split
    · exact w1
    · split
      · exact v1
      · omega
theorem bh_gt {T : Nat → Int32} {n q : Nat} (h : kd T n q ≠ 0) : pl T n q < bh T n q := by
  unfold kd at h
  unfold bh
  by_cases z : n ≤ pl T n q
  · rw [if_pos z] at h; exact absurd rfl h
  rw [if_neg z]
  by_cases l : cL (T (pl T n q)) = true
  · rw [if_pos l]; exact rn_gt (by omega) l
  rw [if_neg l]
  by_cases dd : cD (T (pl T n q)) = true
  · rw [if_pos dd]; exact rn_gt (by omega) dd
  rw [if_neg dd]; omega
theorem bh_ge {T : Nat → Int32} {n q : Nat} : pl T n q ≤ bh T n q := by
  by_cases h : kd T n q = 0
  · unfold kd at h
    unfold bh
    by_cases z : n ≤ pl T n q
    · rw [if_pos z]; omega
    · rw [if_neg z] at h
      split at h
      · omega
      · split at h
        · split at h <;> omega
        · split at h <;> omega
  · have := bh_gt h; omega
theorem nn_lt {T : Nat → Int32} {p : Nat} : ∀ m, (∀ j, j < m → cD (T (p + j)) = true) → nn T p m < 10 ^ min m 4
  | 0, _ => by rw [nn]; decide
  | m + 1, h => by
    have IH := nn_lt m (fun j hj => h j (by omega))
    obtain ⟨b, b1, b2, eb⟩ := cD_n (h m (by omega))
    rw [nn, eb, nI_clamp (by omega)]
    by_cases z : m < 4
    · rw [if_pos z, show min (m + 1) 4 = m + 1 by omega]
      rw [show min m 4 = m by omega] at IH
      have : 10 ^ (m + 1) = 10 ^ m * 10 := Nat.pow_succ 10 m
      omega
    · rw [if_neg z, show min (m + 1) 4 = 4 by omega]
      rw [show min m 4 = 4 by omega] at IH
      exact IH
def nmb (T : Nat → Int32) (n q : Nat) : Nat := nn T (pl T n q) (bh T n q - pl T n q)
theorem kd_2 {T : Nat → Int32} {n q : Nat} (h : kd T n q = 2) : nmb T n q < 10000 := by
  unfold nmb
  unfold kd at h
  unfold bh
  by_cases z : n ≤ pl T n q
  · rw [if_pos z] at h; omega
  rw [if_neg z] at h ⊢
  by_cases l : cL (T (pl T n q)) = true
  · rw [if_pos l] at h; omega
  rw [if_neg l] at h ⊢
  by_cases dd : cD (T (pl T n q)) = true
  · rw [if_pos dd] at h ⊢
    have := nn_lt (T := T) (p := pl T n q) (dE T n q - pl T n q) (fun j hj => rn_all _ _ _ (by omega) (show pl T n q + j < dE T n q by omega))
    have w : 10 ^ min (dE T n q - pl T n q) 4 ≤ 10 ^ 4 := Nat.pow_le_pow_right (by omega) (by omega)
    omega
  · rw [if_neg dd] at h
    split at h <;> omega
def nmL (T : Nat → Int32) (n q : Nat) : Int64 := if 8 < bh T n q - pl T n q then 0 else lN (wn T (pl T n q) (bh T n q - pl T n q))
def isW (T : Nat → Int32) (n q k : Nat) : Bool := decide (kd T n q = 1) && decide (kwV.getD k 0 = nmL T n q)
def er (T : Nat → Int32) (n q : Nat) : Nat × Nat := (if kd T n q = 4 then 1 else 2, pl T n q)
def COk (τ : mSt) (T : Nat → Int32) (n q : Nat) : Prop := τ.1 6 9 = 0 ∧ CT τ T n q ∧ τ.1 7 = T ∧ τ.1 6 3 = nI n ∧ RKw τ ∧ q ≤ n ∧ n ≤ 900 ∧ τ.1 6 10 = -1
def CBad (τ : mSt) (e : Nat × Nat) : Prop := τ.1 6 9 = nI e.1 ∧ τ.1 6 10 = nI e.2 ∧ 1 ≤ e.1 ∧ e.1 ≤ 7
def S6b (o k : Nat) : Bool := o == 6 && decide (4 ≤ k) && decide (k ≤ 10)
theorem S6_b {o k : Nat} (h : S6 o k = true) : S6b o k = true := by
  simp only [S6, S6b, Bool.and_eq_true, decide_eq_true_eq, beq_iff_eq] at h ⊢; omega
theorem CBad_n {τ : mSt} {e : Nat × Nat} (h : CBad τ e) : ¬ τ.1 6 9 = 0 := by
  obtain ⟨h1, -, h2, h3⟩ := h
  rw [h1]
  exact fun g => by have := (nI_eq (b := 0) (by omega) (by omega)).mp g; omega
theorem kd_le {T : Nat → Int32} {n q : Nat} : kd T n q ≤ 4 := by
  unfold kd
  repeat' split
  all_goals omega
theorem To_adv {E : mEn} {d : Nat} {Q : mPost} {τ : mSt} {T : Nat → Int32} {n q : Nat} {u1 u2 : Value} (h : COk τ T n q) (hQ : ∀ υ, qt S6b τ υ → COk υ T n (bh T n q) → Q none υ) : WP E (d + 1) mTo_advance 0 [.ref 6, u1, u2] [] τ Q := by
  obtain ⟨h1, h2, h3, h4, h5, h6, h7, h8⟩ := h
  refine To_advance h3 h4 h2.2.2.1 h7 (bh_le h6) (fun υ q1 g => hQ υ (qt_mono q1 (fun o k => S6_b)) ⟨?_, g, ?_, ?_, fun k hk => ?_, bh_le h6, h7, ?_⟩)
  · rw [(q1 6 9 rfl).1]; exact h1
  · exact (funext fun k => (q1 7 k rfl).1).trans h3
  · rw [(q1 6 3 rfl).1]; exact h4
  · rw [(q1 8 k rfl).2]; exact h5 k hk
  · rw [(q1 6 10 rfl).1]; exact h8
theorem To_blame {E : mEn} {d : Nat} {Q : mPost} {τ : mSt} {T : Nat → Int32} {n q k : Nat} (h : COk τ T n q) (h1 : 1 ≤ k) (h2 : k ≤ 7) (hQ : ∀ υ, qt S6b τ υ → CBad υ (k, pl T n q) → Q none υ) : WP E d mTo_blame 0 [.ref 6, .int (nI k)] [] τ Q := by
  rw [bTo_blame_0, h.1, ite_nn rfl, bTo_blame_7, bTo_blame_20]
  exact hQ _ (qt_sI (qt_sI qt_rf rfl) rfl) ⟨rfl, h.2.1.2.1, h1, h2⟩
theorem To_blame_b {E : mEn} {d : Nat} {Q : mPost} {τ : mSt} {k : Int32} (h : ¬ τ.1 6 9 = 0) : WP E d mTo_blame 0 [.ref 6, .int k] [] τ Q = Q none τ := by
  rw [bTo_blame_0, if_pos h, bTo_blame_20]
theorem To_misplaced {E : mEn} {d : Nat} {Q : mPost} {τ : mSt} {T : Nat → Int32} {n q : Nat} (h : COk τ T n q) (hQ : ∀ υ, qt S6b τ υ → CBad υ (er T n q) → Q none υ) : WP E (d + 1) mTo_misplaced 0 [.ref 6] [] τ Q := by
  rw [bTo_misplaced_0, h.2.1.1]
  have := kd_le (T := T) (n := n) (q := q)
  by_cases z : kd T n q = 4
  · rw [ite_nn (by rw [z]), bTo_misplaced_9, bTo_misplaced_14]
    refine To_blame (k := 1) h (by omega) (by omega) (fun υ q1 g => ?_)
    rw [tl_n, bTo_misplaced_17]
    exact hQ υ q1 (by unfold er; rw [if_pos z]; exact g)
  · rw [if_pos (fun g => z ((nI_eq (by omega) (by omega)).mp g)), bTo_misplaced_13, bTo_misplaced_14]
    refine To_blame (k := 2) h (by omega) (by omega) (fun υ q1 g => ?_)
    rw [tl_n, bTo_misplaced_17]
    exact hQ υ q1 (by unfold er; rw [if_neg z]; exact g)
theorem To_misplaced_b {E : mEn} {d : Nat} {Q : mPost} {τ : mSt} (h : ¬ τ.1 6 9 = 0) : WP E (d + 1) mTo_misplaced 0 [.ref 6] [] τ Q = Q none τ := by
  rw [bTo_misplaced_0, bTo_misplaced_9, bTo_misplaced_13, bTo_misplaced_14, bTo_misplaced_14, To_blame_b h, To_blame_b h, tl_n, bTo_misplaced_17, ite_self]
theorem To_isWord {E : mEn} {d : Nat} {Q : mPost} {τ : mSt} {T : Nat → Int32} {n q k : Nat} (h : COk τ T n q) (hk : k < 28) : WP E d mTo_isWord 0 [.ref 6, .int (nI k)] [] τ Q = Q (some (.int (b2i (isW T n q k = true)))) τ := by
  obtain ⟨h1, h2, h3, h4, h5, h6, h7⟩ := h
  have := kd_le (T := T) (n := n) (q := q)
  rw [bTo_isWord_0, h1, ite_nn rfl, bTo_isWord_7, h2.1]
  by_cases z : kd T n q = 1
  · rw [ite_nn (by rw [z]; rfl), bTo_isWord_15, if_neg (nI_pos (by omega)), bTo_isWord_19, if_neg (nI_ge hk (by omega)), bTo_isWord_28, mOut_f (by omega) (by omega), nI_clamp (by omega), h5 k hk, if_neg (by decide), h2.2.2.2.2.2 z, show (if 8 < bh T n q - pl T n q then 0 else lN (wn T (pl T n q) (bh T n q - pl T n q))) = nmL T n q from rfl]
    by_cases y : kwV.getD k 0 = nmL T n q
    · rw [ite_nn (by rw [lg_eq0]; exact y), b2i_t (by simp only [isW, z, y, decide_true, Bool.and_self]), bTo_isWord_42, bTo_isWord_47 (Or.inr rfl)]
    · rw [if_pos (by rw [lg_eq0]; exact y), b2i_f (by simp only [isW, decide_eq_false y, Bool.and_false, Bool.false_eq_true, not_false_eq_true]), bTo_isWord_46, bTo_isWord_47 (Or.inl rfl)]
  · rw [if_pos (show ¬ nI (kd T n q) = 1 from fun g => z ((nI_eq (b := 1) (by omega) (by omega)).mp g)), b2i_f (by simp only [isW, decide_eq_false z, Bool.false_and, Bool.false_eq_true, not_false_eq_true]), bTo_isWord_46, bTo_isWord_47 (Or.inl rfl)]
theorem To_isWord_b {E : mEn} {d : Nat} {Q : mPost} {τ : mSt} {k : Int32} (h : ¬ τ.1 6 9 = 0) : WP E d mTo_isWord 0 [.ref 6, .int k] [] τ Q = Q (some (.int 0)) τ := by
  rw [bTo_isWord_0, if_pos h, bTo_isWord_46, bTo_isWord_47 (Or.inl rfl)]
