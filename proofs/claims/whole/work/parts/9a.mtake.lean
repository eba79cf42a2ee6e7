/-! what the reference takes from a text -/
def MOk (τ : mSt) (T : Nat → Int32) (n q : Nat) : Prop := τ.1 166 12 = 0 ∧ MT τ T n q ∧ τ.1 170 = T ∧ τ.1 166 9 = nI n ∧ (∀ k, isBy (T k)) ∧ q ≤ n ∧ n ≤ 900
def MBad (τ : mSt) (e : Nat × Nat) : Prop := τ.1 166 12 = nI e.1 ∧ τ.1 166 13 = nI e.2 ∧ 1 ≤ e.1 ∧ e.1 ≤ 7
def S66b (o k : Nat) : Bool := o == 166 && decide (12 ≤ k) && decide (k ≤ 19)
theorem S66_b {o k : Nat} (h : S66 o k = true) : S66b o k = true := by
  simp only [S66, S66b, Bool.and_eq_true, decide_eq_true_eq, beq_iff_eq] at h ⊢; omega
theorem MBad_n {τ : mSt} {e : Nat × Nat} (h : MBad τ e) : ¬ τ.1 166 12 = 0 ∧ ¬ τ.1 166 12 ≤ 0 := by
  obtain ⟨h1, -, h2, h3⟩ := h
  rw [h1]
  exact ⟨fun g => by have := (nI_eq (b := 0) (by omega) (by omega)).mp g; omega, nI_nle (by omega) (by omega)⟩
theorem Mo_nx {E : mEn} {d : Nat} {Q : mPost} {τ : mSt} {T : Nat → Int32} {n q : Nat} {u1 : Value} (h : MOk τ T n q) (hQ : ∀ υ, qt S66b τ υ → MOk υ T n (bh T n q) → Q none υ) : WP E (d + 1) mMo_next 0 [.ref 166, u1] [] τ Q := by
  obtain ⟨h1, h2, h3, h4, h5, h6, h7⟩ := h
  refine Mo_next h5 h3 h4 h2.2.2.1 h7 (bh_le h6) (fun υ q1 g => hQ υ (qt_mono q1 (fun o k => S66_b)) ⟨?_, g, ?_, ?_, h5, bh_le h6, h7⟩)
  · rw [(q1 166 12 rfl).1]; exact h1
  · exact (funext fun k => (q1 170 k rfl).1).trans h3
  · rw [(q1 166 9 rfl).1]; exact h4
theorem Mo_fail {E : mEn} {d : Nat} {Q : mPost} {τ : mSt} {T : Nat → Int32} {n q k : Nat} (h : MOk τ T n q) (h1 : 1 ≤ k) (h2 : k ≤ 7) (hQ : ∀ υ, qt S66b τ υ → MBad υ (k, pl T n q) → Q none υ) : WP E d mMo_fail 0 [.ref 166, .int (nI k), .int (nI (pl T n q))] [] τ Q := by
  rw [bMo_fail_0, h.1, if_pos (Int32.le_refl _), bMo_fail_8]
  exact hQ _ (qt_sI (qt_sI qt_rf rfl) rfl) ⟨rfl, rfl, h1, h2⟩
theorem Mo_fail_b {E : mEn} {d : Nat} {Q : mPost} {τ : mSt} {a b : Int32} {e : Nat × Nat} (h : MBad τ e) : WP E d mMo_fail 0 [.ref 166, .int a, .int b] [] τ Q = Q none τ := by
  rw [bMo_fail_0, if_neg (MBad_n h).2, bMo_fail_7]
theorem Mo_wrong {E : mEn} {d : Nat} {Q : mPost} {τ : mSt} {T : Nat → Int32} {n q : Nat} (h : MOk τ T n q) (hQ : ∀ υ, qt S66b τ υ → MBad υ (er T n q) → Q none υ) : WP E (d + 1) mMo_wrong 0 [.ref 166] [] τ Q := by
  rw [bMo_wrong_0, h.2.1.1]
  have := kd_le (T := T) (n := n) (q := q)
  by_cases z : kd T n q = 4
  · rw [ite_nn (by rw [z]), bMo_wrong_9, bMo_wrong_14, h.2.1.2.1]
    refine Mo_fail (k := 1) h (by omega) (by omega) (fun υ q1 g => ?_)
    rw [tl_n, bMo_wrong_21]
    exact hQ υ q1 (by unfold er; rw [if_pos z]; exact g)
  · rw [if_pos (show ¬ nI (kd T n q) = nI 4 from fun g => z ((nI_eq (by omega) (by omega)).mp g)), bMo_wrong_13, bMo_wrong_14, h.2.1.2.1]
    refine Mo_fail (k := 2) h (by omega) (by omega) (fun υ q1 g => ?_)
    rw [tl_n, bMo_wrong_21]
    exact hQ υ q1 (by unfold er; rw [if_neg z]; exact g)
theorem Mo_wrong_b {E : mEn} {d : Nat} {Q : mPost} {τ : mSt} {e : Nat × Nat} (h : MBad τ e) : WP E (d + 1) mMo_wrong 0 [.ref 166] [] τ Q = Q none τ := by
  rw [bMo_wrong_0, bMo_wrong_9, bMo_wrong_13, bMo_wrong_14, bMo_wrong_14, Mo_fail_b h, Mo_fail_b h, tl_n, bMo_wrong_21, ite_self]
theorem Mo_must_t {E : mEn} {d : Nat} {Q : mPost} {τ : mSt} {T : Nat → Int32} {n q : Nat} (h : MOk τ T n q) (hQ : ∀ υ, qt S66b τ υ → MOk υ T n (bh T n q) → Q none υ) : WP E (d + 2) mMo_must 0 [.ref 166, .int 1] [] τ Q := by
  rw [bMo_must_0, h.1, if_pos (Int32.le_refl _), bMo_must_8, if_neg i10, bMo_must_12]
  refine Mo_nx h (fun υ q1 g => ?_)
  rw [tl_n, bMo_must_16, bMo_must_23]
  exact hQ υ q1 g
theorem Mo_must_f {E : mEn} {d : Nat} {Q : mPost} {τ : mSt} {T : Nat → Int32} {n q : Nat} (h : MOk τ T n q) (hQ : ∀ υ, qt S66b τ υ → MBad υ (er T n q) → Q none υ) : WP E (d + 2) mMo_must 0 [.ref 166, .int 0] [] τ Q := by
  rw [bMo_must_0, h.1, if_pos (Int32.le_refl _), bMo_must_8, if_pos rfl, bMo_must_19]
  refine Mo_wrong h (fun υ q1 g => ?_)
  rw [tl_n, bMo_must_23]
  exact hQ υ q1 g
theorem Mo_must_b {E : mEn} {d : Nat} {Q : mPost} {τ : mSt} {e : Nat × Nat} {a : Int32} (h : MBad τ e) : WP E d mMo_must 0 [.ref 166, .int a] [] τ Q = Q none τ := by
  rw [bMo_must_0, if_neg (MBad_n h).2, bMo_must_7]
theorem Mo_count {E : mEn} {d : Nat} {Q : mPost} {τ : mSt} {T : Nat → Int32} {n q lo hi : Nat} {u : Value} (h : MOk τ T n q) (hlo : lo < 2 ^ 31) (hhi : hi < 2 ^ 31) (h1 : ∀ v q', pNum T n lo hi q = .ok (v, q') → ∀ υ, qt S66b τ υ → MOk υ T n q' → Q (some (.int (nI v))) υ) (h2 : ∀ e, pNum T n lo hi q = .error e → ∀ υ, qt S66b τ υ → MBad υ e → Q (some (.int 0)) υ) : WP E (d + 2) mMo_count 0 [.ref 166, .int (nI lo), .int (nI hi), u] [] τ Q := by
  have := kd_le (T := T) (n := n) (q := q)
  rw [bMo_count_0, h.1, ite_nn rfl, bMo_count_7, h.2.1.1]
  unfold pNum at h1 h2
  by_cases y : kd T n q = 2
  · have hb := kd_2 y
    have e7 : τ.1 166 17 = nI (nmb T n q) := h.2.1.2.2.2.1 y
    rw [if_pos y] at h1 h2
    rw [if_pos (by rw [y]), bMo_count_19, h.1, ite_nn rfl, bMo_count_26, e7, Mo_isIn, tl_s, bMo_count_38]
    simp only [l64]
    by_cases z : lo ≤ nmb T n q ∧ nmb T n q ≤ hi
    · rw [if_pos z] at h1
      rw [b2i_t ⟨nI_nlt z.1 (by omega), nI_nlt z.2 (by omega)⟩, if_pos i10, bMo_count_50, h.1, if_pos (Int32.le_refl _), bMo_count_59, e7]
      refine Mo_nx h (fun υ q1 g => ?_)
      rw [tl_n, bMo_count_68]
      exact h1 _ _ rfl υ q1 g
    · rw [if_neg z] at h2
      have z' : ¬ (¬ nI (nmb T n q) < nI lo ∧ ¬ nI hi < nI (nmb T n q)) := fun g => by
        by_cases w : nmb T n q < lo
        · exact g.1 (nI_lt w hlo)
        · exact g.2 (nI_lt (by omega) (by omega))
      rw [b2i_f z', ite_nn rfl, bMo_count_41, h.2.1.2.1]
      refine Mo_fail h (by omega) (by omega) (fun υ q1 g => ?_)
      rw [tl_n, bMo_count_50, if_neg (MBad_n g).2, bMo_count_57]
      exact h2 _ rfl υ q1 g
  · rw [if_neg (show ¬ nI (kd T n q) = nI 2 from fun g => y ((nI_eq (by omega) (by omega)).mp g)), bMo_count_15]
    rw [if_neg y] at h2
    refine Mo_wrong h (fun υ q1 g => ?_)
    rw [tl_n, bMo_count_19, if_pos (MBad_n g).1, bMo_count_50, if_neg (MBad_n g).2, bMo_count_57]
    exact h2 _ rfl υ q1 g
theorem Mo_count_b {E : mEn} {d : Nat} {Q : mPost} {τ : mSt} {e : Nat × Nat} {a b : Int32} {u : Value} (h : MBad τ e) : WP E d mMo_count 0 [.ref 166, .int a, .int b, u] [] τ Q = Q (some (.int 0)) τ := by
  rw [bMo_count_0, if_pos (MBad_n h).1, bMo_count_19, if_pos (MBad_n h).1, bMo_count_50, if_neg (MBad_n h).2, bMo_count_57]
theorem Mo_isSign {E : mEn} {d : Nat} {Q : mPost} {τ : mSt} {T : Nat → Int32} {n q x : Nat} (h : MOk τ T n q) : WP E d mMo_isSign 0 [.ref 166, .int (nI x)] [] τ Q = Q (some (.int (b2i (isS T n q x = true)))) τ := by
  have := kd_le (T := T) (n := n) (q := q)
  rw [bMo_isSign_0, h.2.1.1]
  by_cases y : kd T n q = 3
  · rw [ite_nn (by rw [y]), bMo_isSign_8, h.2.1.2.2.2.2.1 y]
    by_cases w : T (pl T n q) = nI x
    · rw [ite_nn w, bMo_isSign_16, bMo_isSign_21 (Or.inr rfl), b2i_t (by simp only [isS, y, w, decide_true, Bool.and_self])]
    · rw [if_pos w, bMo_isSign_20, bMo_isSign_21 (Or.inl rfl), b2i_f (by simp only [isS, decide_eq_false w, Bool.and_false, Bool.false_eq_true, not_false_eq_true])]
  · rw [if_pos (show ¬ nI (kd T n q) = nI 3 from fun g => y ((nI_eq (by omega) (by omega)).mp g)), bMo_isSign_20, bMo_isSign_21 (Or.inl rfl), b2i_f (by simp only [isS, decide_eq_false y, Bool.false_and, Bool.false_eq_true, not_false_eq_true])]
theorem Mo_isSign_a {E : mEn} {d : Nat} {Q : mPost} {τ : mSt} {x : Int32} : ∃ b : Int32, WP E d mMo_isSign 0 [.ref 166, .int x] [] τ Q = Q (some (.int b)) τ := by
  rw [bMo_isSign_0, bMo_isSign_8, bMo_isSign_16, bMo_isSign_20, bMo_isSign_21 (Or.inl rfl), bMo_isSign_21 (Or.inr rfl)]
  split
  · exact ⟨_, rfl⟩
  · split
    · exact ⟨_, rfl⟩
    · exact ⟨_, rfl⟩
theorem kw_nz : ∀ k, k < 28 → ¬ kwV.getD k 0 = 0 ∧ ¬ kwV.getD k 0 = -1 := by decide
theorem Mo_isWord {E : mEn} {d : Nat} {Q : mPost} {τ : mSt} {T : Nat → Int32} {n q k : Nat} {x : Int64} (h : MOk τ T n q) (hk : k < 28) (hx : x = kwV.getD k 0) : WP E d mMo_isWord 0 [.ref 166, .long x, uu] [] τ Q = Q (some (.int (b2i (isW T n q k = true)))) τ := by
  have := kd_le (T := T) (n := n) (q := q)
  obtain ⟨k0, k1⟩ := kw_nz k hk
  rw [bMo_isWord_0, h.2.1.1]
  by_cases y : kd T n q = 1
  · have e19 := (h.2.1.2.2.2.2.2 y).2
    rw [ite_nn (by rw [y]; rfl), bMo_isWord_8, e19, hx]
    have em : ((if 8 < bh T n q - pl T n q then -1 else lN (wn T (pl T n q) (bh T n q - pl T n q))) = kwV.getD k 0) ↔ kwV.getD k 0 = nmL T n q := by
      unfold nmL
      by_cases l : 8 < bh T n q - pl T n q
      · rw [if_pos l, if_pos l]; exact ⟨fun g => absurd g.symm k1, fun g => absurd g k0⟩
      · rw [if_neg l, if_neg l]; exact eq_comm
    by_cases w : kwV.getD k 0 = nmL T n q
    · rw [ite_nn (by rw [lg_eq0]; exact em.mpr w), bMo_isWord_17, bMo_isWord_22 (Or.inr rfl), b2i_t (by simp only [isW, y, w, decide_true, Bool.and_self])]
    · rw [if_pos (by rw [lg_eq0]; exact fun g => w (em.mp g)), bMo_isWord_21, bMo_isWord_22 (Or.inl rfl), b2i_f (by simp only [isW, decide_eq_false w, Bool.and_false, Bool.false_eq_true, not_false_eq_true])]
  · rw [if_pos (show ¬ nI (kd T n q) = 1 from fun g => y ((nI_eq (b := 1) (by omega) (by omega)).mp g)), bMo_isWord_21, bMo_isWord_22 (Or.inl rfl), b2i_f (by simp only [isW, decide_eq_false y, Bool.false_and, Bool.false_eq_true, not_false_eq_true])]
def spl (p q r s t u : Int32) : Int64 :=
  let a := ((p.toInt64 - 96) * 32 + q.toInt64) - 96
  let b := if r ≤ 0 then a else (a * 32 + r.toInt64) - 96
  let e := if s ≤ 0 then b else (b * 32 + s.toInt64) - 96
  let f := if t ≤ 0 then e else (e * 32 + t.toInt64) - 96
  if u ≤ 0 then f else (f * 32 + u.toInt64) - 96
theorem Mo_spelled {E : mEn} {d : Nat} {Q : mPost} {τ : mSt} {p q r s t u : Int32} {u6 u7 : Value} : WP E d mMo_spelled 0 [.int p, .int q, .int r, .int s, .int t, .int u, u6, u7] [] τ Q = Q (some (.long (spl p q r s t u))) τ := by
  unfold spl
  simp only [bMo_spelled_0, bMo_spelled_23, bMo_spelled_39, bMo_spelled_41, bMo_spelled_47, bMo_spelled_63, bMo_spelled_65, bMo_spelled_72, bMo_spelled_89, bMo_spelled_91, bMo_spelled_98, bMo_spelled_115, bMo_spelled_117]
  by_cases h1 : r ≤ 0 <;> by_cases h2 : s ≤ 0 <;> by_cases h3 : t ≤ 0 <;> by_cases h4 : u ≤ 0 <;> simp only [h1, h2, h3, h4, if_true, if_false]
