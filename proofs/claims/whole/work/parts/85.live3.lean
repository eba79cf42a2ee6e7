/-! live: a step of the reference; tests -/
def SMv (o k : Nat) : Bool := SMo o k || (o == 166 && decide (38 ≤ k) && decide (k ≤ 45))
theorem SMo_v {o k : Nat} (h : SMo o k = true) : SMv o k = true := by simp only [SMv, h, Bool.true_or]
theorem SMv_k {k : Nat} (h1 : 38 ≤ k) (h2 : k ≤ 45) : SMv 166 k = true := by simp [SMv, h1, h2]
def MR (k : Nat → Int32) (τ : mSt) : Prop := ∀ i, 38 ≤ i → i ≤ 45 → τ.1 166 i = k i
theorem MR_q {S : Nat → Nat → Bool} {k : Nat → Int32} {σ τ : mSt} (q : qt S σ τ) (hS : ∀ i, 38 ≤ i → i ≤ 45 → S 166 i = false) (h : MR k σ) : MR k τ := fun i h1 h2 => ((q 166 i (hS i h1 h2)).1).trans (h i h1 h2)
theorem MR_s {k : Nat → Int32} {σ : mSt} {i : Nat} {x : Int32} (h : MR k σ) : MR (upd k i x) (sI σ 166 i x) := fun j h1 h2 => by
  by_cases e : j = i
  · subst e; rw [sI_e, upd_e]
  · rw [sI_n (Or.inr e), upd_n e]; exact h j h1 h2
theorem S171_166 (i : Nat) : S171 166 i = false := rfl
theorem SMo_166 {i : Nat} (h1 : 38 ≤ i) (h2 : i ≤ 45) : SMo 166 i = false := by
  simp only [SMo, SQ, S171, Bool.and_eq_false_iff, Bool.or_eq_false_iff, beq_eq_false_iff_ne, decide_eq_false_iff_not, ne_eq]
  omega
theorem Mo_does {E : mEn} {d : Nat} {Q : mPost} {σ σ0 : mSt} {t np no nl nk dy s : Nat} {S : lvS} {w : Nat → Int64} {F : Nat → Int32} {u2 u3 : Value} (hT : TRel σ0 t S.1 w np no nl nk dy) (hc : σ.1 171 = S.1) (hk : MR S.2 σ) (hs : s < 30) (hp : stepP (fun j => S.1 (324 + 9 * s + j)) F np no nl) (hx : ∃ x, x < 6 ∧ S.1 (324 + 9 * s) = nI x)
    (hQ : ∀ τ, qt SMv σ τ → τ.1 166 0 = σ.1 166 0 → τ.1 171 = (dsF np no S (324 + 9 * s)).1.1 → MR (dsF np no S (324 + 9 * s)).1.2 τ → Q (some (.int (dsF np no S (324 + 9 * s)).2)) τ) : WP E (d + 8) mMo_does 0 [.ref 166, .int (nI (324 + 9 * s)), u2, u3] [] σ Q := by
  obtain ⟨⟨b1, b2, b3, b4, b5⟩, ⟨t1, c1⟩, ⟨t2, c2⟩, ⟨t3, c3⟩, ⟨t4, c4⟩, ⟨t5, c5⟩, c6, gP, gO, gL, gB, gK, -⟩ := id hT
  obtain ⟨x, hx, ek⟩ := hx
  have e3 : cN S.1 3 = nk := by unfold cN; rw [c4, nI_clamp (by omega)]
  have nk6 : ∀ y, 6 ≤ y → y < 2 ^ 31 → S.1 (324 + 9 * s) = nI y → False := fun y h1 h2 h3 => by
    have := (nI_eq (by omega) h2).mp (ek.symm.trans h3)
    omega
  dsimp only [stepP] at hp
  have w0 : S.1 (324 + 9 * s + 0) = S.1 (324 + 9 * s) := rfl
  rw [w0] at hp
  have clm : ∀ j y, y < 2 ^ 31 → S.1 (324 + 9 * s + j) = nI y → cN S.1 (324 + 9 * s + j) = y := fun j y h1 h2 => by unfold cN; rw [h2, nI_clamp h1]
  have rd : ∀ j, j ≤ 8 → mOut (nI (324 + 9 * s + j)) 3000 = false := fun j hj => mOut_f (by omega) (by omega)
  have rc : ∀ j, j ≤ 8 → (nI (324 + 9 * s + j)).toNatClampNeg = 324 + 9 * s + j := fun j hj => nI_clamp (by omega)
  rw [bMo_does_0, mOut_f (by omega) (by omega), nI_clamp (by omega), hc, if_neg (show ¬ false = true by decide)]
  rcases hp with ⟨k0, f, f1, f2, f3, f4, f5, ⟨n, n1, n2, en⟩, ⟨l, hl, el⟩, ⟨p, q, hpp, hqq, hpq, ep, eq⟩, m, hm, em⟩ | ⟨k0, f, f1, n, hn, en⟩ | ⟨k0, f, f1, l, hl, el⟩ | ⟨k0, f, f1, n, n1, n2, en⟩ | ⟨k0, f, f1, f2, ⟨p, hpp, ep⟩, n, n1, n2, en⟩ | ⟨k0, f, f1, f2, f3, ⟨p, hpp, ep⟩, ⟨q, hqq, eq⟩, n, n1, n2, en⟩ | ⟨k0, -⟩ | ⟨k0, -⟩ | ⟨k0, -⟩
  · -- promise
    unfold dsF at hQ
    rw [if_pos k0, clm 2 l (by omega) el, clm 3 p (by omega) ep, clm 4 q (by omega) eq, e3, c4] at hQ
    rw [ite_nn k0, k0, bMo_does_11, if_neg (by decide), hc, c4]
    by_cases h40 : nk < 40
    rotate_left
    · rw [if_pos (Or.inl (by rw [show nk = 40 by omega]))] at hQ
      rw [if_pos (by rw [show nk = 40 by omega]), bMo_does_37]
      exact hQ σ qt_rf rfl hc hk
    rw [if_neg (fun y => by have := (nI_eq (by omega) (by omega)).mp y; omega), bMo_does_22, nI_add, rd 2 (by omega), rc 2 (by omega), hc, el, if_neg (by decide), Mo_isBaked (show l < 8 by omega), tl_s, bMo_does_34, hc]
    by_cases hb : S.1 (74 + l) < 0
    rotate_left
    · rw [if_pos (Or.inr hb)] at hQ
      rw [b2i_t hb, if_neg i10, bMo_does_37]
      exact hQ σ qt_rf rfl hc hk
    rw [if_neg (fun g => g.elim (fun y => by have := (nI_eq (by omega) (by omega)).mp y; omega) (fun y => y hb)), en, el, em] at hQ
    rw [b2i_f (not_not_intro hb), if_pos rfl, bMo_does_39, nI_1, nI_add, nI_add, nI_add, nI_add, rd 1 (by omega), rd 2 (by omega), rd 3 (by omega), rd 4 (by omega), rd 5 (by omega), rc 1 (by omega), rc 2 (by omega), rc 3 (by omega), rc 4 (by omega), rc 5 (by omega), hc, en, el, ep, eq, em]
    simp only [not_true_eq_false, not_false_eq_true, and_self, and_true, true_and, and_false, false_and, or_true, true_or, or_false, false_or, or_self, if_true, if_false, ite_self, eq_self, Bool.false_eq_true, Bool.true_eq_false]
    refine Mo_makes hc c4 h40 (by omega) (by omega) (fun υ q1 h1 => ?_)
    rw [tl_s, bMo_does_83]
    exact hQ υ (qt_mono q1 (fun o k h => SMo_v (S171_Mo h))) (q1 166 0 rfl).1 h1 (MR_q q1 (fun i _ _ => S171_166 i) hk)
  · -- break
    unfold dsF at hQ
    rw [if_neg (by rw [k0]; decide), if_pos k0, clm 1 n (by omega) en, e3] at hQ
    have cv : brOk S.1 nk n = (n < nk ∧ S.1 (82 + 6 * n + 5) = 0 ∧ S.1 (74 + (S.1 (82 + 6 * n + 1)).toNatClampNeg) < 0) := rfl
    rw [k0, if_pos (by decide), bMo_does_86, ite_nn rfl, bMo_does_91, nI_1, rd 1 (by omega), rc 1 (by omega), hc, en, if_neg (by decide)]
    refine Mo_breaks hT hc (by omega) (fun ok υ q1 h1 => ?_) (fun nok => ?_)
    · rw [if_pos (cv ▸ ok)] at hQ
      rw [tl_s, bMo_does_103 (Or.inr rfl)]
      exact hQ υ (qt_mono q1 (fun o k h => SMo_v (S171_Mo h))) (q1 166 0 rfl).1 h1 (MR_q q1 (fun i _ _ => S171_166 i) hk)
    · rw [if_neg (cv ▸ nok)] at hQ
      rw [tl_s, bMo_does_103 (Or.inl rfl)]
      exact hQ σ qt_rf rfl hc hk
  · -- bake
    unfold dsF at hQ
    rw [if_neg (by rw [k0]; decide), if_neg (by rw [k0]; decide), if_pos k0, clm 1 l (by omega) el, e3] at hQ
    rw [k0, if_pos (by decide), bMo_does_86, if_pos (by decide), bMo_does_104, ite_nn rfl, bMo_does_109, nI_1, rd 1 (by omega), rc 1 (by omega), hc, el, if_neg (by decide)]
    refine Mo_bakes hT hc hl (fun ok υ q1 g0 h1 => ?_) (fun nok => ?_)
    rotate_left
    · rw [if_neg nok] at hQ
      rw [tl_s, bMo_does_121, if_neg (by decide), bMo_does_126]
      exact hQ σ qt_rf rfl hc hk
    rw [if_pos ok] at hQ
    obtain ⟨m, hm, em⟩ := cF_n (wet := b2i (wtP S.1 (S.1 (42 + l)))) hT hl
    obtain ⟨bk, hbk, ebk⟩ := (gL l hl).1.2
    have ebn : bkN S.1 l = bk := by unfold bkN; rw [ebk, nI_clamp (by omega)]
    have eo' : ∀ i, i < 14 ∨ 30 ≤ i → i ≠ 74 + l → bkF S.1 l np nk (b2i (wtP S.1 (S.1 (42 + l)))) i = S.1 i := fun i h1 h2 => by
      unfold bkF bkM
      rw [upd_n h2, ebn, upd_n (by omega), bkL_o h1 (by omega)]
    have ew : b2i (wtP (bkF S.1 l np nk (b2i (wtP S.1 (S.1 (42 + l))))) (bkF S.1 l np nk (b2i (wtP S.1 (S.1 (42 + l)))) (42 + l))) = b2i (wtP S.1 (S.1 (42 + l))) := b2i_congr (by unfold wtP; rw [eo' 5 (by omega) (by omega), eo' (42 + l) (by omega) (by omega)])
    have h1' : (sI υ 166 42 (υ.1 166 42 + cF S.1 l (b2i (wtP S.1 (S.1 (42 + l)))))).1 171 = bkF S.1 l np nk (b2i (wtP S.1 (S.1 (42 + l)))) := h1
    rw [tl_s, bMo_does_121, if_pos (by rw [em]; exact nI_pos' (by omega)), bMo_does_128, nI_1, rd 1 (by omega), rc 1 (by omega), h1', eo' _ (by omega) (by omega), el, if_neg (by decide), Mo_isWetOven (show l < 8 by omega), tl_s, bMo_does_155, h1', ew]
    have k42 : υ.1 166 42 = S.2 42 := ((q1 166 42 (SMo_166 (by omega) (by omega))).1).trans (hk 42 (by omega) (by omega))
    have k44 : υ.1 166 44 = S.2 44 := ((q1 166 44 (SMo_166 (by omega) (by omega))).1).trans (hk 44 (by omega) (by omega))
    have FIN : ∀ y : Int32, y = b2i (wtP S.1 (S.1 (42 + l))) → Q (some (.int 1)) (sI (sI υ 166 42 (υ.1 166 42 + cF S.1 l (b2i (wtP S.1 (S.1 (42 + l)))))) 166 44 ((sI υ 166 42 (υ.1 166 42 + cF S.1 l (b2i (wtP S.1 (S.1 (42 + l)))))).1 166 44 + y)) := fun y ey => by
      rw [ey, sI_n (by omega), k42, k44]
      exact hQ _ (qt_sI (qt_sI (qt_mono q1 (fun o k => SMo_v)) (SMv_k (by omega) (by omega))) (SMv_k (by omega) (by omega))) g0 h1 (MR_s (MR_s (MR_q q1 (fun i => SMo_166) hk)))
    by_cases z : wtP S.1 (S.1 (42 + l))
    · rw [b2i_t z] at FIN ⊢
      rw [if_neg i10, bMo_does_158, bMo_does_163]
      exact FIN 1 rfl
    · rw [b2i_f z] at FIN ⊢
      rw [if_pos rfl, bMo_does_162, bMo_does_163]
      exact FIN 0 rfl
  · -- wait
    unfold dsF at hQ
    rw [if_neg (by rw [k0]; decide), if_neg (by rw [k0]; decide), if_neg (by rw [k0]; decide), if_pos k0, clm 1 n (by omega) en, c5] at hQ
    rw [k0, if_pos (by decide), bMo_does_86, if_pos (by decide), bMo_does_104, if_pos (by decide), bMo_does_169, ite_nn rfl, bMo_does_174, nI_1, rd 1 (by omega), rc 1 (by omega), hc, en, if_neg (by decide), bMo_waits_0, if_neg (by decide), hc, c5]
    refine Mo_wa_loop b2 n2 n dy S σ _ (by omega) b5 b5 c2 c5 hc (hk 39 (by omega) (by omega)) (fun υ u3 dy' q1 g1 g2 g3 g4 g5 g6 => ?_)
    have kk : ∀ (j : Nat) (S : lvS) (i : Nat), i ≠ 39 → (waF no j S).2 i = S.2 i := by
      intro j
      induction j with
      | zero => intro S i hi; rfl
      | succ j ih =>
        intro S i hi
        rw [waF]
        split
        · rw [ih _ i hi]
          exact upd_n hi
        · rfl
    have FIN : ∀ y : Int32, y = (if nI dy < nI 99 then 1 else 0) → Q (some (.int y)) υ := fun y ey => by
      rw [ey]
      refine hQ υ (qt_mono q1 (fun o k h => ?_)) (q1 166 0 rfl).1 g1 (fun i h1 h2 => ?_)
      · simp only [S45, Bool.or_eq_true, Bool.and_eq_true, beq_iff_eq] at h
        rcases h with ⟨rfl, rfl | rfl⟩ | ⟨rfl, rfl⟩ <;> rfl
      · by_cases e : i = 39
        · subst e; exact g2
        · rw [kk _ _ _ e, (q1 166 i (by simp only [S45, Bool.or_eq_false_iff, Bool.and_eq_false_iff, beq_eq_false_iff_ne]; omega)).1]
          exact hk i h1 h2
    rw [bMo_waits_100, if_neg (by decide), g1, g3]
    by_cases z : dy < 99
    · have := g6 (by omega) z
      rw [if_neg (nI_ge (by omega) (by omega)), bMo_waits_110, bMo_waits_115 (Or.inr rfl), tl_s, bMo_does_186 (Or.inr rfl)]
      exact FIN 1 (by rw [if_pos (nI_lt z (by omega))])
    · have : dy' = dy := by omega
      rw [this, if_pos (Int32.le_refl _), bMo_waits_114, bMo_waits_115 (Or.inl rfl), tl_s, bMo_does_186 (Or.inl rfl)]
      exact FIN 0 (by rw [if_neg (nI_nlt (by omega) (by omega))])
  · -- eat
    unfold dsF at hQ
    rw [if_neg (by rw [k0]; decide), if_neg (by rw [k0]; decide), if_neg (by rw [k0]; decide), if_neg (by rw [k0]; decide), if_neg (by rw [k0]; decide), clm 1 p (by omega) ep, en] at hQ
    dsimp only at hQ
    rw [k0, if_pos (by decide), bMo_does_86, if_pos (by decide), bMo_does_104, if_pos (by decide), bMo_does_169, if_pos (by decide), bMo_does_187, if_pos (by decide), bMo_does_221, nI_1, nI_add, rd 1 (by omega), rd 2 (by omega), rc 1 (by omega), rc 2 (by omega), hc, ep, en, if_neg (by decide), if_neg (by decide)]
    refine Mo_eats hc (by omega) (fun υ q1 h1 => ?_)
    have k43 : υ.1 166 43 = S.2 43 := ((q1 166 43 rfl).1).trans (hk 43 (by omega) (by omega))
    have FIN : ∀ y : Int32, y = (if eatM S.1 p (nI n) ≤ 0 then 0 else 1) → Q (some (.int y)) (sI υ 166 43 (υ.1 166 43 + eatM S.1 p (nI n))) := fun y ey => by
      rw [ey, k43]
      exact hQ _ (qt_sI (qt_mono q1 (fun o k h => SMo_v (S171_Mo h))) (SMv_k (by omega) (by omega))) (q1 166 0 rfl).1 h1 (MR_s (MR_q q1 (fun i _ _ => S171_166 i) hk))
    rw [tl_s, bMo_does_241]
    by_cases z : eatM S.1 p (nI n) ≤ 0
    · rw [if_pos z, bMo_does_260, bMo_does_261 (Or.inl rfl)]
      exact FIN 0 (by rw [if_pos z])
    · rw [if_neg z, bMo_does_256, bMo_does_261 (Or.inr rfl)]
      exact FIN 1 (by rw [if_neg z])
  · -- pay
    unfold dsF at hQ
    rw [if_neg (by rw [k0]; decide), if_neg (by rw [k0]; decide), if_neg (by rw [k0]; decide), if_neg (by rw [k0]; decide), if_pos k0, clm 1 p (by omega) ep, clm 2 q (by omega) eq, en] at hQ
    rw [k0, if_pos (by decide), bMo_does_86, if_pos (by decide), bMo_does_104, if_pos (by decide), bMo_does_169, if_pos (by decide), bMo_does_187, ite_nn rfl, bMo_does_192, nI_1, nI_add, nI_add, rd 1 (by omega), rd 2 (by omega), rd 3 (by omega), rc 1 (by omega), rc 2 (by omega), rc 3 (by omega), hc, ep, eq, en]
    simp only [not_true_eq_false, not_false_eq_true, and_self, and_true, true_and, and_false, false_and, or_true, true_or, or_false, false_or, or_self, if_true, if_false, ite_self, eq_self, Bool.false_eq_true, Bool.true_eq_false]
    refine Mo_pays hc (by omega) (by omega) (fun ok υ q1 h1 => ?_) (fun nok => ?_)
    · rw [if_pos ok] at hQ
      rw [tl_s, bMo_does_220 (Or.inr rfl)]
      exact hQ υ (qt_mono q1 (fun o k h => SMo_v (S171_Mo h))) (q1 166 0 rfl).1 h1 (MR_q q1 (fun i _ _ => S171_166 i) hk)
    · rw [if_neg nok] at hQ
      rw [tl_s, bMo_does_220 (Or.inl rfl)]
      exact hQ σ qt_rf rfl hc hk
  · exact (nk6 6 (by omega) (by omega) k0).elim
  · exact (nk6 7 (by omega) (by omega) k0).elim
  · exact (nk6 8 (by omega) (by omega) k0).elim
def cmB (v s n : Int32) : Bool := if s = nI 60 then decide (v < n) else if s = nI 62 then decide (n < v) else decide (v = n)
def isB (c : Nat → Int32) (w : Nat) : Bool := if c (w + 6) = nI 2 then decide (¬ c (74 + cN c (w + 1)) < 0) else if c (w + 6) = nI 3 then decide (wtP c (c (w + 1))) else cmB (if c (w + 6) = 0 then c 4 else c (14 + cN c (w + 1))) (c (w + 7)) (c (w + 2))
theorem Li_compares {E : mEn} {d : Nat} {σ : mSt} {Q : mPost} {v s n : Int32} : WP E d mLi_compares 0 [.int v, .int s, .int n] [] σ Q = Q (some (.int (b2i (cmB v s n = true)))) σ := by
  unfold cmB
  rw [bLi_compares_0]
  by_cases h1 : s = nI 60
  · rw [ite_nn h1, bLi_compares_6]
    by_cases z : v < n
    · rw [if_neg (Int32.not_le.mpr z), bLi_compares_11, bLi_compares_16 (Or.inr rfl), b2i_t (by rw [if_pos h1]; simp [z])]
    · rw [if_pos (Int32.not_lt.mp z), bLi_compares_15, bLi_compares_16 (Or.inl rfl), b2i_f (by rw [if_pos h1]; simp [z])]
  · rw [if_pos h1, bLi_compares_17]
    by_cases h2 : s = nI 62
    · rw [ite_nn h2, bLi_compares_23]
      by_cases z : n < v
      · rw [if_neg (Int32.not_le.mpr z), bLi_compares_28, bLi_compares_46 (Or.inr rfl), b2i_t (by rw [if_neg h1, if_pos h2]; simp [z])]
      · rw [if_pos (Int32.not_lt.mp z), bLi_compares_32, bLi_compares_46 (Or.inl rfl), b2i_f (by rw [if_neg h1, if_pos h2]; simp [z])]
    · rw [if_pos h2, bLi_compares_36]
      by_cases z : v = n
      · rw [ite_nn z, bLi_compares_41, bLi_compares_46 (Or.inr rfl), b2i_t (by rw [if_neg h1, if_neg h2]; simp [z])]
      · rw [if_pos z, bLi_compares_45, bLi_compares_46 (Or.inl rfl), b2i_f (by rw [if_neg h1, if_neg h2]; simp [z])]
theorem Li_isTrue {E : mEn} {d : Nat} {Q : mPost} {σ : mSt} {t np no nl nk dy r s : Nat} {c : Nat → Int32} {w : Nat → Int64} {u2 u3 u4 u5 : Value} (ht : isT t) (hT : TRel σ t c w np no nl nk dy) (hr : r < 60) (hp : stepP (fun j => c (324 + 9 * s + j)) (fun j => σ.1 (t + 13) (r * 7 + j)) np no nl) (hk : c (324 + 9 * s) = nI 6) : WP E (d + 2) mLi_isTrue 0 [.ref t, .int (nI r), u2, u3, u4, u5] [] σ Q = Q (some (.int (b2i (isB c (324 + 9 * s) = true)))) σ := by
  obtain ⟨⟨b1, b2, b3, b4, b5⟩, ⟨t1, c1⟩, ⟨t2, c2⟩, ⟨t3, c3⟩, ⟨t4, c4⟩, ⟨t5, c5⟩, c6, gP, gO, gL, gB, gK, -⟩ := id hT
  rw [bLi_isTrue_0 ht, Da_cellD (j := 2) ht hr (by omega) rfl, tl_s, bLi_isTrue_11 ht, Da_cellD (j := 3) ht hr (by omega) rfl, tl_s, bLi_isTrue_18 ht, Da_cellD (j := 4) ht hr (by omega) rfl, tl_s, bLi_isTrue_26 ht, Da_cellD (j := 1) (x := 1) ht hr (by omega) rfl, tl_s]
  dsimp only [stepP] at hp
  have w0 : c (324 + 9 * s + 0) = c (324 + 9 * s) := rfl
  rw [w0, hk] at hp
  have ne : ∀ a b : Nat, a ≠ b → a < 9 → b < 9 → ¬ nI a = nI b := fun a b h1 h2 h3 h4 => h1 ((nI_eq (by omega) (by omega)).mp h4)
  rcases hp with ⟨k0, -⟩ | ⟨k0, -⟩ | ⟨k0, -⟩ | ⟨k0, -⟩ | ⟨k0, -⟩ | ⟨k0, -⟩ | ⟨-, -, hp⟩ | ⟨k0, -⟩ | ⟨k0, -⟩
  · exact absurd k0 (by decide)
  · exact absurd k0 (by decide)
  · exact absurd k0 (by decide)
  · exact absurd k0 (by decide)
  · exact absurd k0 (by decide)
  · exact absurd k0 (by decide)
  · unfold isB
    rcases hp with ⟨k6, f1, f3, f4⟩ | ⟨k6, f1, f2, f3, f4, p, hp, ep⟩ | ⟨k6, f1, f2, l, hl, el⟩ | ⟨k6, f1, f2, o, ho, eo⟩
    · rw [f1, f3, f4, bLi_isTrue_34_s21, bLi_isTrue_60 ht, Li_compares, tl_s, bLi_isTrue_71 ht b2i_or, t5, if_neg (by rw [k6]; decide), if_neg (by rw [k6]; decide), if_pos k6, c5]
    · have ec : cN c (324 + 9 * s + 1) = p := by unfold cN; rw [ep, nI_clamp (by omega)]
      rw [if_neg (c := c (324 + 9 * s + 6) = nI 2) (by rw [k6]; decide), if_neg (c := c (324 + 9 * s + 6) = nI 3) (by rw [k6]; decide), if_neg (c := c (324 + 9 * s + 6) = 0) (by rw [k6]; decide), ec, f1, f2, f3, f4, ep, bLi_isTrue_34_s22, bLi_isTrue_72 ht, Tw_hasPerson ht t1 b1, tl_s, bLi_isTrue_77 ht, b2i_t (mOut_f hp (by omega)), if_neg i10, bLi_isTrue_80 ht, mOut_f (by omega) (by omega), nI_clamp (by omega), (gP p hp).2.1, if_neg (by decide), Li_compares, tl_s, bLi_isTrue_93 ht]
      by_cases z : cmB (c (14 + p)) (c (324 + 9 * s + 7)) (c (324 + 9 * s + 2)) = true
      · rw [b2i_t z, if_neg i10, bLi_isTrue_96 ht, bLi_isTrue_101 ht (Or.inr rfl)]
      · rw [b2i_f z, if_pos rfl, bLi_isTrue_100 ht, bLi_isTrue_101 ht (Or.inl rfl)]
    · have ec : cN c (324 + 9 * s + 1) = l := by unfold cN; rw [el, nI_clamp (by omega)]
      rw [f1, f2, el, bLi_isTrue_34_s23, bLi_isTrue_102 ht, Tw_isBaked ht t3 b3 hl (gL l hl), tl_s, bLi_isTrue_107 ht b2i_or, if_pos k6, ec, b2i_congr (c := ¬ c (74 + l) < 0) (e := decide (¬ c (74 + l) < 0) = true) (by simp)]
    · rw [f1, f2, eo, bLi_isTrue_34_sD (fun k k1 k2 g => by have := (nI_eq (by omega) (by omega)).mp g; omega), bLi_isTrue_108 ht, Tw_isWet ht c6.1 (show o < 4 by omega), tl_s, bLi_isTrue_113 ht b2i_or, if_neg (by rw [k6]; decide), if_pos k6, b2i_congr (c := wtP c (nI o)) (e := decide (wtP c (nI o)) = true) (by simp)]
  · exact absurd k0 (by decide)
  · exact absurd k0 (by decide)
theorem Mo_isSo {E : mEn} {d : Nat} {Q : mPost} {σ σ0 : mSt} {t np no nl nk dy s : Nat} {c : Nat → Int32} {w : Nat → Int64} {F : Nat → Int32} {u2 u3 : Value} (hT : TRel σ0 t c w np no nl nk dy) (hc : σ.1 171 = c) (hs : s < 30) (hp : stepP (fun j => c (324 + 9 * s + j)) F np no nl) (hk : c (324 + 9 * s) = nI 6) : WP E (d + 2) mMo_isSo 0 [.ref 166, .int (nI (324 + 9 * s)), u2, u3] [] σ Q = Q (some (.int (b2i (isB c (324 + 9 * s) = true)))) σ := by
  obtain ⟨⟨b1, b2, b3, b4, b5⟩, ⟨t1, c1⟩, ⟨t2, c2⟩, ⟨t3, c3⟩, ⟨t4, c4⟩, ⟨t5, c5⟩, c6, gP, gO, gL, gB, gK, -⟩ := id hT
  have rd : ∀ j, j ≤ 8 → mOut (nI (324 + 9 * s + j)) 3000 = false := fun j hj => mOut_f (by omega) (by omega)
  have rc : ∀ j, j ≤ 8 → (nI (324 + 9 * s + j)).toNatClampNeg = 324 + 9 * s + j := fun j hj => nI_clamp (by omega)
  have CM : ∀ (a2 x : Int32) (u3 : Value), WP E (d + 2) mMo_isSo 80 [.ref 166, .int (nI (324 + 9 * s)), .int a2, u3] [.int x] σ Q = Q (some (.int (b2i (cmB x (c (324 + 9 * s + 7)) (c (324 + 9 * s + 2)) = true)))) σ := fun a2 x u3 => by
    unfold cmB
    rw [bMo_isSo_80, nI_add, rd 7 (by omega), rc 7 (by omega), hc, if_neg (by decide)]
    by_cases h1 : c (324 + 9 * s + 7) = nI 60
    · rw [ite_nn h1, bMo_isSo_95, nI_add, rd 2 (by omega), rc 2 (by omega), hc, if_neg (by decide)]
      by_cases z : x < c (324 + 9 * s + 2)
      · rw [if_neg (Int32.not_le.mpr z), bMo_isSo_107, bMo_isSo_166 (Or.inr rfl), b2i_t (by rw [if_pos h1]; simp [z])]
      · rw [if_pos (Int32.not_lt.mp z), bMo_isSo_111, bMo_isSo_166 (Or.inl rfl), b2i_f (by rw [if_pos h1]; simp [z])]
    · rw [if_pos h1, bMo_isSo_115, nI_add, rd 7 (by omega), rc 7 (by omega), hc, if_neg (by decide)]
      by_cases h2 : c (324 + 9 * s + 7) = nI 62
      · rw [ite_nn h2, bMo_isSo_129, nI_add, rd 2 (by omega), rc 2 (by omega), hc, if_neg (by decide)]
        by_cases z : c (324 + 9 * s + 2) < x
        · rw [if_neg (Int32.not_le.mpr z), bMo_isSo_141, bMo_isSo_166 (Or.inr rfl), b2i_t (by rw [if_neg h1, if_pos h2]; simp [z])]
        · rw [if_pos (Int32.not_lt.mp z), bMo_isSo_145, bMo_isSo_166 (Or.inl rfl), b2i_f (by rw [if_neg h1, if_pos h2]; simp [z])]
      · rw [if_pos h2, bMo_isSo_149, nI_add, rd 2 (by omega), rc 2 (by omega), hc, if_neg (by decide)]
        by_cases z : x = c (324 + 9 * s + 2)
        · rw [ite_nn z, bMo_isSo_161, bMo_isSo_166 (Or.inr rfl), b2i_t (by rw [if_neg h1, if_neg h2]; simp [z])]
        · rw [if_pos z, bMo_isSo_165, bMo_isSo_166 (Or.inl rfl), b2i_f (by rw [if_neg h1, if_neg h2]; simp [z])]
  rw [bMo_isSo_0, nI_add, rd 6 (by omega), rc 6 (by omega), hc, if_neg (by decide)]
  dsimp only [stepP] at hp
  have w0 : c (324 + 9 * s + 0) = c (324 + 9 * s) := rfl
  rw [w0, hk] at hp
  rcases hp with ⟨k0, -⟩ | ⟨k0, -⟩ | ⟨k0, -⟩ | ⟨k0, -⟩ | ⟨k0, -⟩ | ⟨k0, -⟩ | ⟨-, -, hp⟩ | ⟨k0, -⟩ | ⟨k0, -⟩
  · exact absurd k0 (by decide)
  · exact absurd k0 (by decide)
  · exact absurd k0 (by decide)
  · exact absurd k0 (by decide)
  · exact absurd k0 (by decide)
  · exact absurd k0 (by decide)
  · unfold isB
    rcases hp with ⟨k6, -⟩ | ⟨k6, -, -, -, -, p, hp, ep⟩ | ⟨k6, -, -, l, hl, el⟩ | ⟨k6, -, -, o, ho, eo⟩
    · rw [k6, if_pos (by decide), bMo_isSo_28, if_pos (by decide), bMo_isSo_51, ite_nn rfl, bMo_isSo_55, if_neg (by decide), hc, CM, if_neg (by decide), if_neg (by decide), if_pos rfl]
    · have ec : cN c (324 + 9 * s + 1) = p := by unfold cN; rw [ep, nI_clamp (by omega)]
      rw [k6, if_pos (by decide), bMo_isSo_28, if_pos (by decide), bMo_isSo_51, if_pos (by decide), bMo_isSo_64, nI_1, rd 1 (by omega), rc 1 (by omega), hc, ep, nI_add, mOut_f (by omega) (by omega), nI_clamp (by omega), if_neg (by decide), if_neg (by decide), CM, if_neg (by decide), if_neg (by decide), if_neg (by decide), ec]
    · have ec : cN c (324 + 9 * s + 1) = l := by unfold cN; rw [el, nI_clamp (by omega)]
      rw [k6, ite_nn rfl, bMo_isSo_15, nI_1, rd 1 (by omega), rc 1 (by omega), hc, el, if_neg (by decide), Mo_isBaked (show l < 8 by omega), tl_s, bMo_isSo_27 b2i_or, if_pos rfl, hc, ec, b2i_congr (c := ¬ c (74 + l) < 0) (e := decide (¬ c (74 + l) < 0) = true) (by simp)]
    · rw [k6, if_pos (by decide), bMo_isSo_28, ite_nn rfl, bMo_isSo_33, nI_1, rd 1 (by omega), rc 1 (by omega), hc, eo, if_neg (by decide), if_neg (by decide), Mo_has, tl_s, bMo_isSo_50 b2i_or, if_neg (by decide), if_pos rfl, b2i_congr (c := wtP c (nI o)) (e := decide (wtP c (nI o)) = true) (by simp)]
  · exact absurd k0 (by decide)
  · exact absurd k0 (by decide)
