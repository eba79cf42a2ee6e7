def fillI (σ : mSt) (o lo n : Nat) (v : Int32) : mSt := (fun a b => if a = o ∧ lo ≤ b ∧ b < lo + n then v else σ.1 a b, σ.2)
theorem fillI_0 {σ : mSt} {o lo : Nat} {v : Int32} : fillI σ o lo 0 v = σ := by
  unfold fillI
  refine Prod.ext ?_ rfl
  funext a b
  dsimp only
  rw [if_neg (by omega)]
theorem fillI_s {σ : mSt} {o lo n : Nat} {v : Int32} : fillI (sI σ o lo v) o (lo + 1) n v = fillI σ o lo (n + 1) v := by
  unfold fillI sI
  refine Prod.ext ?_ rfl
  funext a b
  dsimp only
  by_cases h : a = o <;> by_cases h2 : b = lo <;> simp [h, h2] <;> (repeat' split) <;> first | rfl | omega
theorem qt_fI {S : Nat → Nat → Bool} {σ τ : mSt} {a lo n : Nat} {v : Int32} (h : qt S σ τ) (hs : ∀ b, S a b = true) : qt S σ (fillI τ a lo n v) := fun o k h0 => by
  have hn : ¬ (o = a ∧ lo ≤ k ∧ k < lo + n) := fun q => by rw [q.1, hs k] at h0; cases h0
  exact ⟨by unfold fillI; dsimp only; rw [if_neg hn]; exact (h o k h0).1, (h o k h0).2⟩
theorem Ar_fill_loop {E : mEn} {d : Nat} {Q : mPost} {a n : Nat} {v : Int32} (ha : mS0[a]? = some (0, n, [])) (hl : a < 1000) (hn : n < 2 ^ 31) : ∀ (j k : Nat) (σ : mSt), k + j = n → WP E d mAr_fill 5 [.ref a, .int v, .int (nI k), .int (nI n)] [] σ Q = Q none (fillI σ a k j v)
  | 0, k, σ, h => by
    rw [bAr_fill_5 ha hl, if_pos (nI_le (by omega) (by omega)), bAr_fill_20 ha hl, fillI_0]
  | j + 1, k, σ, h => by
    rw [bAr_fill_5 ha hl, if_neg (nI_ge (by omega) (by omega)), bAr_fill_10 ha hl, nI_1, mOut_f (by omega) (by omega), nI_clamp (by omega), if_neg (by decide), Ar_fill_loop ha hl hn j (k + 1) _ (by omega), fillI_s]
theorem Ar_fill {E : mEn} {d : Nat} {Q : mPost} {a n : Nat} {v : Int32} {σ : mSt} {u1 u2 : Value} (ha : mS0[a]? = some (0, n, [])) (hl : a < 1000) (hn : n < 2 ^ 31) : WP E d mAr_fill 0 [.ref a, .int v, u1, u2] [] σ Q = Q none (fillI σ a 0 n v) := by
  rw [bAr_fill_0 ha hl]
  exact Ar_fill_loop ha hl hn n 0 σ (by omega)
def SHs (h o k : Nat) : Bool := decide (h ≤ o) && decide (o ≤ h + 5)
theorem SH_T {h t j k : Nat} (hh : isH h) (ht : isT t) (hj : j < 25) : SHs h (t + j) k = false := by
  simp only [SHs, Bool.and_eq_false_iff, decide_eq_false_iff_not]
  rcases hh with rfl | rfl | rfl <;> rcases ht with rfl | rfl | rfl | rfl | rfl <;> omega
theorem SH_in {h j k : Nat} (hj : j ≤ 5) : SHs h (h + j) k = true := by simp [SHs]; omega
theorem SH_in0 {h k : Nat} : SHs h h k = true := by simp [SHs]
theorem snc_s {c : Nat → Int32} {l p k : Nat} (h : ¬ (c (82 + 6 * k + 5) = 0 ∧ c (82 + 6 * k + 1) = nI l ∧ c (82 + 6 * k + 3) = nI p)) (hk : k < 40) : snc c l p (k + 1) = snc c l p k := by
  unfold snc
  split
  · rfl
  · rw [fI, if_neg h]
    rcases fI_le (c := c) (l := l) (p := p) k (by omega) with g | g
    · rw [if_pos (by omega)]
    · rw [if_neg (by omega), g]
theorem snc_t {c : Nat → Int32} {l p k : Nat} (h : c (82 + 6 * k + 5) = 0 ∧ c (82 + 6 * k + 1) = nI l ∧ c (82 + 6 * k + 3) = nI p) (hk : k < 40) : (if nI k < snc c l p k then nI k else snc c l p k) = snc c l p (k + 1) := by
  unfold snc
  by_cases hb : c (34 + l) = nI p
  · rw [if_pos hb, if_pos hb, if_neg (fun q => absurd (Int32.lt_of_le_of_lt (nI_pos' (by omega)) q) (by decide))]
  · rw [if_neg hb, if_neg hb, fI, if_pos h]
    rcases fI_le (c := c) (l := l) (p := p) k (by omega) with g | g
    · rw [if_neg (nI_nlt (by omega) (by omega)), if_pos (by omega)]
    · rw [g, if_pos (nI_lt (by omega) (by omega)), if_neg (by omega)]
theorem hF_n {c : Nat → Int32} {l p k : Nat} (h : ¬ (c (82 + 6 * k + 5) = 0 ∧ c (82 + 6 * k + 1) = nI l)) : hF c l p (k + 1) = hF c l p k := by rw [hF, if_neg h]
/-- held and since by the first k promises -/
def HS (τ : mSt) (h : Nat) (c : Nat → Int32) (l k : Nat) : Prop := ∀ p, p < 8 → τ.1 (h + 1) p = hF c l p k ∧ τ.1 (h + 2) p = snc c l p k
theorem Sh_weigh_loop {E : mEn} {d : Nat} {Q : mPost} {σ : mSt} {h t l np nl nk : Nat} {c : Nat → Int32} (hh : isH h) (ht : isT t) (hnp : np ≤ 8) (hl : l < nl) (hnl : nl ≤ 8) (hk : σ.1 (t + 3) 8 = nI nk) (hn : nk ≤ 40) (hP : ∀ k, k < nk → PRel σ t c np nl k)
    (hQ : ∀ τ, qt (SHs h) σ τ → HS τ h c l nk → τ.1 h 6 = 0 → WP E d mSh_weigh 177 [.ref h, .ref t, .int (nI l), .ref (t + 3), .int (nI nk)] [] τ Q) : ∀ (j k : Nat) (τ : mSt), k + j = nk → qt (SHs h) σ τ → HS τ h c l k → τ.1 h 6 = 0 → WP E d mSh_weigh 68 [.ref h, .ref t, .int (nI l), .ref (t + 3), .int (nI k)] [] τ Q
  | 0, k, τ, e, q, g, h6 => by
    have e2 : k = nk := by omega
    subst e2
    rw [bSh_weigh_68 hh ht, (q _ _ (SH_T hh ht (by omega))).1, hk, if_pos (Int32.le_refl _)]
    exact hQ τ q g h6
  | j + 1, k, τ, e, q, g, h6 => by
    have T : ∀ i x, i < 25 → τ.1 (t + i) x = σ.1 (t + i) x := fun i x hi => (q _ _ (SH_T hh ht hi)).1
    obtain ⟨⟨p1, -⟩, ⟨p2, -⟩, ⟨p3, a, ha, p3'⟩, ⟨p4, b, hb, p4'⟩, -, ⟨p6, p6'⟩, -⟩ := hP k (by omega)
    have t4 : τ.1 (t + 4) k = c (82 + 6 * k) := (T 4 k (by omega)).trans p1
    have t5 : τ.1 (t + 5) k = c (82 + 6 * k + 1) := (T 5 k (by omega)).trans p2
    have t6 : τ.1 (t + 6) k = nI a := (T 6 k (by omega)).trans (p3.trans p3')
    have t7 : τ.1 (t + 7) k = nI b := (T 7 k (by omega)).trans (p4.trans p4')
    have t9 : τ.1 (t + 9) k = c (82 + 6 * k + 5) := (T 9 k (by omega)).trans p6
    have ne : ∀ i i', i < 25 → i' ≤ 5 → ¬ (t + i = h + i') := fun i i' hi hi' w => by
      have := SH_T (k := 0) hh ht hi
      rw [w, SH_in hi'] at this; cases this
    have R : ∀ (i x i' y : Nat) (v : Int32) (υ : mSt), i < 25 → i' ≤ 5 → (sI υ (h + i') y v).1 (t + i) x = υ.1 (t + i) x := fun i x i' y v υ hi hi' => by rw [sI_rd, if_neg (fun w => ne i i' hi hi' w.1)]
    rw [bSh_weigh_68 hh ht, T 3 8 (by omega), hk, if_neg (nI_ge (by omega) (by omega))]
    have mk : mOut (nI k) 40 = false := mOut_f (by omega) (by omega)
    have ck : (nI k).toNatClampNeg = k := nI_clamp (by omega)
    by_cases h1 : c (82 + 6 * k + 5) = 0 ∧ c (82 + 6 * k + 1) = nI l
    · have ma : mOut (nI a) 8 = false := mOut_f (by omega) (by omega)
      have ca : (nI a).toNatClampNeg = a := nI_clamp (by omega)
      have mb : mOut (nI b) 8 = false := mOut_f (by omega) (by omega)
      have cb : (nI b).toNatClampNeg = b := nI_clamp (by omega)
      simp (disch := first | omega | assumption | exact b2i_or | exact T10 | exact Or.inl rfl | exact Or.inr rfl) only [bSh_weigh_77, bSh_weigh_87, bSh_weigh_98, bSh_weigh_120, bSh_weigh_142, bSh_weigh_171, mk, ck, ma, ca, mb, cb, t4, t5, t6, t7, t9, h1.1, h1.2, R 4 k 1, R 6 k 1, R 7 k 1, nI_1, not_true_eq_false, not_false_eq_true, and_self, and_true, true_and, and_false, false_and, or_true, true_or, or_false, false_or, or_self, if_true, if_false, ite_self, eq_self, Bool.false_eq_true, Bool.true_eq_false]
      refine Sh_weigh_loop hh ht hnp hl hnl hk hn hP hQ j (k + 1) _ (by omega) (qt_tr q (qt_sI (qt_sI (qt_sI qt_rf (SH_in (by omega))) (SH_in (by omega))) (SH_in (by omega)))) (fun p hp => ?_) (by rw [sI_rd, if_neg (by omega), sI_rd, if_neg (by omega), sI_rd, if_neg (by omega)]; exact h6)
      have ea : (c (82 + 6 * k + 2) = nI p) ↔ a = p := by rw [p3', nI_eq (by omega) (by omega)]
      have eb : (c (82 + 6 * k + 3) = nI p) ↔ b = p := by rw [p4', nI_eq (by omega) (by omega)]
      obtain ⟨g1, g2⟩ := g p hp
      constructor
      · rw [hF, if_pos h1]
        simp only [ea, eb, sI_rd, show ¬ (h + 1 = h + 2) by omega, not_true_eq_false, not_false_eq_true, and_self, and_true, true_and, and_false, false_and, or_true, true_or, or_false, false_or, or_self, if_true, if_false, ite_self, eq_self, Bool.false_eq_true, Bool.true_eq_false]
        by_cases x1 : p = b
        · subst x1
          by_cases x2 : p = a
          · subst x2
            simp only [g1, not_true_eq_false, not_false_eq_true, and_self, and_true, true_and, and_false, false_and, or_true, true_or, or_false, false_or, or_self, if_true, if_false, ite_self, eq_self, Bool.false_eq_true, Bool.true_eq_false]
            rw [Int32.sub_add_cancel, Int32.add_sub_cancel]
          · have x2' : ¬ a = p := fun w => x2 w.symm
            simp only [x2, x2', g1, not_true_eq_false, not_false_eq_true, and_self, and_true, true_and, and_false, false_and, or_true, true_or, or_false, false_or, or_self, if_true, if_false, ite_self, eq_self, Bool.false_eq_true, Bool.true_eq_false, Int32.sub_zero]
        · have x1' : ¬ b = p := fun w => x1 w.symm
          by_cases x2 : p = a
          · subst x2
            simp only [x1, x1', g1, not_true_eq_false, not_false_eq_true, and_self, and_true, true_and, and_false, false_and, or_true, true_or, or_false, false_or, or_self, if_true, if_false, ite_self, eq_self, Bool.false_eq_true, Bool.true_eq_false, Int32.add_zero]
          · have x2' : ¬ a = p := fun w => x2 w.symm
            simp only [x1, x1', x2, x2', g1, not_true_eq_false, not_false_eq_true, and_self, and_true, true_and, and_false, false_and, or_true, true_or, or_false, false_or, or_self, if_true, if_false, ite_self, eq_self, Bool.false_eq_true, Bool.true_eq_false, Int32.add_zero, Int32.sub_zero]
      · simp only [sI_rd, show ¬ (h + 2 = h + 1) by omega, not_true_eq_false, not_false_eq_true, and_self, and_true, true_and, and_false, false_and, or_true, true_or, or_false, false_or, or_self, if_true, if_false, ite_self, eq_self, Bool.false_eq_true, Bool.true_eq_false]
        by_cases x1 : p = b
        · subst x1
          simp only [not_true_eq_false, not_false_eq_true, and_self, and_true, true_and, and_false, false_and, or_true, true_or, or_false, false_or, or_self, if_true, if_false, ite_self, eq_self, Bool.false_eq_true, Bool.true_eq_false]
          rw [g2]
          exact snc_t ⟨h1.1, h1.2, p4'⟩ (by omega)
        · have x1' : ¬ b = p := fun w => x1 w.symm
          simp only [x1, not_true_eq_false, not_false_eq_true, and_self, and_true, true_and, and_false, false_and, or_true, true_or, or_false, false_or, or_self, if_true, if_false, ite_self, eq_self, Bool.false_eq_true, Bool.true_eq_false]
          rw [g2, snc_s (fun w => x1' (eb.mp w.2.2)) (by omega)]
    · have go : WP E d mSh_weigh 171 [.ref h, .ref t, .int (nI l), .ref (t + 3), .int (nI k)] [] τ Q := by
        rw [bSh_weigh_171 hh ht, nI_1]
        refine Sh_weigh_loop hh ht hnp hl hnl hk hn hP hQ j (k + 1) _ (by omega) q (fun p hp => ?_) h6
        rw [hF_n h1, snc_s (fun w => h1 ⟨w.1, w.2.1⟩) (by omega)]
        exact g p hp
      rw [bSh_weigh_77 hh ht, mk, ck, t9, if_neg (by decide)]
      by_cases x : c (82 + 6 * k + 5) = 0
      · have y : ¬ c (82 + 6 * k + 1) = nI l := fun w => h1 ⟨x, w⟩
        rw [if_neg (fun w => w x), bSh_weigh_87 hh ht, mk, ck, t5, if_neg (by decide), if_pos y]; exact go
      · rw [if_pos x]; exact go
