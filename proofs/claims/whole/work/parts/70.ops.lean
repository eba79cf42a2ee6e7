/-! what is done by hand: promises made and let go, days, slices eaten, money paid: of a town at t, and of the reference's row -/
def mkA (c : Nat → Int32) (b : Nat) (n l p q f : Int32) : Nat → Int32 := upd (upd (upd (upd (upd (upd c b n) (b + 1) l) (b + 2) p) (b + 3) q) (b + 4) f) (b + 5) 0
def mkB (c : Nat → Int32) : Nat → Int32 := upd c 3 (c 3 + 1)
def mkC (c : Nat → Int32) (q : Nat) (f : Int32) : Nat → Int32 := upd c (6 + q) (c (6 + q) - f)
def mkD (c : Nat → Int32) (p : Nat) (f : Int32) : Nat → Int32 := upd c (6 + p) (c (6 + p) + f)
def mkF (c : Nat → Int32) (nk : Nat) (n l : Int32) (p q : Nat) (f : Int32) : Nat → Int32 := mkD (mkC (mkB (mkA c (82 + 6 * nk) n l (nI p) (nI q) f)) q f) p f
theorem Pr_room {E : mEn} {d : Nat} {σ : mSt} {Q : mPost} {t nk : Nat} (ht : isT t) (h : σ.1 (t + 3) 8 = nI nk) (hn : nk ≤ 40) : WP E d mPr_hasRoom 0 [.ref (t + 3)] [] σ Q = Q (some (.int (b2i (nk < 40)))) σ := by
  rw [bPr_hasRoom_0 ht, h, if_neg (nI_pos (by omega)), bPr_hasRoom_7 ht, h]
  by_cases z : nk < 40
  · rw [if_neg (nI_ge z (by omega)), bPr_hasRoom_16 ht, bPr_hasRoom_21 ht (Or.inr rfl), b2i_t z]
  · rw [if_pos (nI_le (by omega) (by omega)), bPr_hasRoom_20 ht, bPr_hasRoom_21 ht (Or.inl rfl), b2i_f z]
theorem Tw_handOn {E : mEn} {d : Nat} {Q : mPost} {σ : mSt} {t np no nl nk dy n l p q f : Nat} {c : Nat → Int32} {w : Nat → Int64} {u : Value} (ht : isT t) (hT : TRel σ t c w np no nl nk dy) (hk : nk < 40) (h1 : 1 ≤ n) (h99 : n ≤ 99) (hl : l < nl) (hp : p < np) (hq : q < np) (hpq : p ≠ q) (hf : f ≤ 999)
    (hQ : ∀ τ, qt (STn t) σ τ → GB σ τ t → TRel τ t (mkF c nk (nI n) (nI l) p q (nI f)) w np no nl (nk + 1) dy → Q (some (.int (nI nk))) τ) : WP E (d + 1) mTw_handOn 0 [.ref t, .int (nI n), .int (nI l), .int (nI p), .int (nI q), .int (nI f), u] [] σ Q := by
  obtain ⟨⟨b1, b2, b3, b4, b5⟩, ⟨t1, c1⟩, ⟨t2, c2⟩, ⟨t3, c3⟩, ⟨t4, c4⟩, ⟨t5, c5⟩, c6, gP, gO, gL, gB, gK, -⟩ := id hT
  rw [bTw_handOn_0 ht, t4, Pr_room ht t4 b4, tl_s, bTw_handOn_16 ht, b2i_t hk, if_neg i10, bTw_handOn_19 ht, Tw_hasPerson ht t1 b1, tl_s, bTw_handOn_24 ht, b2i_t (mOut_f hp (by omega)), if_neg i10, bTw_handOn_27 ht, Tw_hasPerson ht t1 b1, tl_s, bTw_handOn_33 ht, b2i_t (mOut_f hq (by omega)), if_pos i10, bTw_handOn_38 ht, bTw_handOn_95 ht, bTw_handOn_130 ht, mOut_f (n := nk) (by omega) (by omega), mOut_f (n := p) (by omega) (by omega), mOut_f (n := q) (by omega) (by omega), nI_clamp (n := nk) (by omega), nI_clamp (n := p) (by omega), nI_clamp (n := q) (by omega), show vp_nar .boolean 0 = 0 from rfl]
  simp only [not_true_eq_false, not_false_eq_true, and_self, and_true, true_and, and_false, false_and, or_true, true_or, or_false, false_or, or_self, if_true, if_false, ite_self, eq_self, Bool.false_eq_true, Bool.true_eq_false]
  refine hQ _ ?_ ?_ ?_
  · repeat' (first | exact qt_rf | refine qt_sI ?_ (STn_in (by omega)))
  · intro k
    by_cases e : k = nk
    · subst e
      right; left
      simp (disch := omega) only [sI_n, sI_e]
    · left
      simp (disch := omega) only [sI_n, sI_e]
  · refine TRel_c hT (by omega) b5 ?_ ?_ ?_ ?_ ?_ ?_ ?_ ?_ ?_ ?_ ?_ ?_ ?_ ?_
    · simp (disch := omega) only [sI_n, sI_e, and_self]
    · simp (disch := omega) only [mkF, mkA, mkB, mkC, mkD, upd_n, upd_e, and_self]
    · simp (disch := omega) only [mkF, mkA, mkB, mkC, mkD, upd_n, upd_e, sI_n, sI_e, t4, c4, nI_1, and_self]
    · simp (disch := omega) only [mkF, mkA, mkB, mkC, mkD, upd_n, upd_e, sI_n, sI_e, t5, c5, and_self]
    · simp (disch := omega) only [mkF, mkA, mkB, mkC, mkD, upd_n, upd_e, sI_n, sI_e]
      exact c6
    · intro x hx
      obtain ⟨x1, x2, x3⟩ := gP x hx
      refine ⟨?_, ?_, ?_⟩
      · by_cases e : x = p
        · subst e
          simp (disch := omega) only [mkF, mkA, mkB, mkC, mkD, upd_n, upd_e, sI_n, sI_e, x1]
        · by_cases e2 : x = q
          · subst e2
            simp (disch := omega) only [mkF, mkA, mkB, mkC, mkD, upd_n, upd_e, sI_n, sI_e, x1]
          · simp (disch := omega) only [mkF, mkA, mkB, mkC, mkD, upd_n, upd_e, sI_n, sI_e, x1]
      · simp (disch := omega) only [mkF, mkA, mkB, mkC, mkD, upd_n, upd_e, sI_n, sI_e, x2]
      · simp (disch := omega) only [mkF, mkA, mkB, mkC, mkD, upd_n, upd_e, sI_n, sI_e, x3]
    · intro k hk'
      simp (disch := omega) only [mkF, mkA, mkB, mkC, mkD, upd_n, upd_e, sI_n, sI_e, and_self]
    · intro x hx
      refine LRel_c (gL x hx) (fun j j1 j2 => ?_) ?_ (fun i i1 i2 i3 => ?_) (by omega)
      · simp (disch := omega) only [sI_n, sI_e]
      · simp (disch := omega) only [sI_n, sI_e]
      · simp (disch := omega) only [mkF, mkA, mkB, mkC, mkD, upd_n, upd_e]
    · simp (disch := omega) only [sI_n, sI_e]
      exact gB
    · intro k hk'
      by_cases e : k = nk
      · subst e
        have r0 : mkF c k (nI n) (nI l) p q (nI f) (82 + 6 * k) = nI n := by simp (disch := omega) only [mkF, mkA, mkB, mkC, mkD, upd_n, upd_e]
        have r1 : mkF c k (nI n) (nI l) p q (nI f) (82 + 6 * k + 1) = nI l := by simp (disch := omega) only [mkF, mkA, mkB, mkC, mkD, upd_n, upd_e]
        have r2 : mkF c k (nI n) (nI l) p q (nI f) (82 + 6 * k + 2) = nI p := by simp (disch := omega) only [mkF, mkA, mkB, mkC, mkD, upd_n, upd_e]
        have r3 : mkF c k (nI n) (nI l) p q (nI f) (82 + 6 * k + 3) = nI q := by simp (disch := omega) only [mkF, mkA, mkB, mkC, mkD, upd_n, upd_e]
        have r4 : mkF c k (nI n) (nI l) p q (nI f) (82 + 6 * k + 4) = nI f := by simp (disch := omega) only [mkF, mkA, mkB, mkC, mkD, upd_n, upd_e]
        have r5 : mkF c k (nI n) (nI l) p q (nI f) (82 + 6 * k + 5) = 0 := by simp (disch := omega) only [mkF, mkA, mkB, mkC, mkD, upd_n, upd_e]
        unfold PRel
        rw [r0, r1, r2, r3, r4, r5]
        simp (disch := omega) only [sI_n, sI_e]
        exact ⟨⟨trivial, n, h1, h99, rfl⟩, ⟨trivial, l, hl, rfl⟩, ⟨trivial, p, hp, rfl⟩, ⟨trivial, q, hq, rfl⟩, ⟨trivial, f, hf, rfl⟩, ⟨trivial, Or.inl (by first | rfl | trivial)⟩, fun g => hpq ((nI_eq (by omega) (by omega)).mp g)⟩
      · refine PRel_c (gK k (by omega)) (fun j j1 j2 => ?_) (fun j hj => ?_)
        · simp (disch := omega) only [sI_n, sI_e]
        · simp (disch := omega) only [mkF, mkA, mkB, mkC, mkD, upd_n, upd_e]
    · exact fun k _ => ⟨rfl, rfl⟩
    · intro k k1 k2
      simp (disch := omega) only [sI_n, sI_e]
    · intro k k1
      simp (disch := omega) only [sI_n, sI_e]
    · intro i i1 i2
      simp (disch := omega) only [mkF, mkA, mkB, mkC, mkD, upd_n, upd_e]
theorem Mo_makes {E : mEn} {d : Nat} {Q : mPost} {σ : mSt} {nk p q : Nat} {n l f : Int32} {c : Nat → Int32} {u : Value} (hc : σ.1 171 = c) (c4 : c 3 = nI nk) (hk : nk < 40) (hp : p < 8) (hq : q < 8) (hQ : ∀ τ, qt S171 σ τ → τ.1 171 = mkF c nk n l p q f → Q (some (.int (nI nk))) τ) : WP E (d + 1) mMo_makes 0 [.ref 166, .int n, .int l, .int (nI p), .int (nI q), .int f, u] [] σ Q := by
  rw [bMo_makes_0, hc, c4]
  simp (disch := first | omega | assumption | exact b2i_or | exact T10 | exact Or.inl rfl | exact Or.inr rfl) only [bMo_makes_17, bMo_makes_28, bMo_makes_41, bMo_makes_54, bMo_makes_68, bMo_makes_82, bMo_makes_111, Mo_part, tl_s, nI_add, nI_1, pk_mul, mOut_f, nI_clamp, not_true_eq_false, not_false_eq_true, and_self, and_true, true_and, and_false, false_and, or_true, true_or, or_false, false_or, or_self, if_true, if_false, ite_self, eq_self, Bool.false_eq_true, Bool.true_eq_false]
  refine hQ _ ?_ ?_
  · have h1 : ∀ i, i < 322 → S171 171 i = true := fun i hi => by simp [S171, hi]
    repeat' (first | exact qt_rf | refine qt_sI ?_ (h1 _ (by omega)))
  · simp only [sI_u, hc]
    rfl
def brF (c : Nat → Int32) (k p q : Nat) (f : Int32) : Nat → Int32 := upd (upd (upd c (82 + 6 * k + 5) 1) (6 + q) (upd c (82 + 6 * k + 5) 1 (6 + q) + f)) (6 + p) (upd (upd c (82 + 6 * k + 5) 1) (6 + q) (upd c (82 + 6 * k + 5) 1 (6 + q) + f) (6 + p) - f)
def brOk (c : Nat → Int32) (nk k : Nat) : Prop := k < nk ∧ c (82 + 6 * k + 5) = 0 ∧ c (74 + (c (82 + 6 * k + 1)).toNatClampNeg) < 0
def brG (c : Nat → Int32) (k : Nat) : Nat → Int32 := brF c k (c (82 + 6 * k + 2)).toNatClampNeg (c (82 + 6 * k + 3)).toNatClampNeg (c (82 + 6 * k + 4))
theorem Tw_release {E : mEn} {d : Nat} {Q : mPost} {σ : mSt} {t np no nl nk dy k : Nat} {c : Nat → Int32} {w : Nat → Int64} (ht : isT t) (hT : TRel σ t c w np no nl nk dy) (hk : k < 2 ^ 31)
    (hQ1 : brOk c nk k → ∀ τ, qt (STn t) σ τ → GB σ τ t → TRel τ t (brG c k) w np no nl nk dy → Q (some (.int 1)) τ) (hQ0 : ¬ brOk c nk k → Q (some (.int 0)) σ) : WP E (d + 2) mTw_release 0 [.ref t, .int (nI k)] [] σ Q := by
  obtain ⟨⟨b1, b2, b3, b4, b5⟩, ⟨t1, c1⟩, ⟨t2, c2⟩, ⟨t3, c3⟩, ⟨t4, c4⟩, ⟨t5, c5⟩, c6, gP, gO, gL, gB, gK, -⟩ := id hT
  by_cases hk1 : k < nk
  rotate_left
  · rw [bTw_release_0 ht, bPr_stands_0 ht, Pr_has ht t4 b4, tl_s, b2i_f (show ¬ mOut (nI k) nk = false from fun g => hk1 (by obtain ⟨j, hj, e⟩ := mOut_n g; have := (nI_eq hk (by omega)).mp e; omega))]
    simp only [bPr_stands_0, bPr_stands_5, bPr_stands_8, bPr_stands_17, bPr_stands_21, bPr_stands_22, ht, not_true_eq_false, not_false_eq_true, and_self, and_true, true_and, and_false, false_and, or_true, true_or, or_false, false_or, or_self, if_true, if_false, ite_self, eq_self, Bool.false_eq_true, Bool.true_eq_false]
    rw [tl_s, bTw_release_8 ht, if_pos rfl, bTw_release_27 ht]
    exact hQ0 (fun g => hk1 g.1)
  obtain ⟨⟨p0, n, n1, n2, en⟩, ⟨p1, l, hl, el⟩, ⟨p2, p, hp, ep⟩, ⟨p3, q, hq, eq⟩, ⟨p4, f, hf, ef⟩, ⟨p5, hg⟩, hne⟩ := gK k hk1
  have hpq : p ≠ q := fun e => hne (by rw [ep, eq, e])
  rw [bTw_release_0 ht, Pr_stands ht t4 b4 hk1, tl_s, bTw_release_8 ht, p5]
  by_cases h5 : c (82 + 6 * k + 5) = 0
  rotate_left
  · rw [b2i_f h5, if_pos rfl, bTw_release_27 ht]
    exact hQ0 (fun g => h5 g.2.1)
  rw [b2i_t h5, if_neg i10, bTw_release_11 ht, mOut_f (by omega) (by omega), nI_clamp hk, p1, el, if_neg (by decide), Tw_isBaked ht t3 b3 hl (gL l hl), tl_s, bTw_release_24 ht]
  have e74 : (c (82 + 6 * k + 1)).toNatClampNeg = l := by rw [el, nI_clamp (by omega)]
  by_cases hb : c (74 + l) < 0
  rotate_left
  · rw [b2i_t hb, if_neg i10, bTw_release_27 ht]
    exact hQ0 (fun g => hb (by rw [← e74]; exact g.2.2))
  rw [b2i_f (fun g => g hb), if_pos rfl, bTw_release_29 ht, bTw_release_65 ht, bTw_release_91 ht]
  simp (disch := omega) only [nI_clamp, sI_n, sI_e, p2, p3, p4, ep, eq, mOut_f, show vp_nar .boolean 1 = 1 from rfl, not_true_eq_false, not_false_eq_true, and_self, and_true, true_and, and_false, false_and, or_true, true_or, or_false, false_or, or_self, if_true, if_false, ite_self, eq_self, Bool.false_eq_true, Bool.true_eq_false]
  have eG : brG c k = brF c k p q (c (82 + 6 * k + 4)) := by unfold brG; rw [ep, eq, nI_clamp (by omega), nI_clamp (by omega)]
  refine hQ1 ⟨hk1, h5, by rw [e74]; exact hb⟩ _ ?_ ?_ ?_
  · repeat' (first | exact qt_rf | refine qt_sI ?_ (STn_in (by omega)))
  · intro x
    by_cases e : x = k
    · subst e
      right; right
      simp (disch := omega) only [sI_n, sI_e]
    · left
      simp (disch := omega) only [sI_n, sI_e]
  · rw [eG]
    refine TRel_c hT b4 b5 ?_ ?_ ?_ ?_ ?_ ?_ ?_ ?_ ?_ ?_ ?_ ?_ ?_ ?_
    · simp (disch := omega) only [sI_n, sI_e, and_self]
    · simp (disch := omega) only [brF, upd_n, upd_e, and_self]
    · simp (disch := omega) only [brF, upd_n, upd_e, sI_n, sI_e, t4, c4, and_self]
    · simp (disch := omega) only [brF, upd_n, upd_e, sI_n, sI_e, t5, c5, and_self]
    · simp (disch := omega) only [brF, upd_n, upd_e, sI_n, sI_e]
      exact c6
    · intro x hx
      obtain ⟨x1, x2, x3⟩ := gP x hx
      refine ⟨?_, ?_, ?_⟩
      · by_cases e : x = p
        · subst e
          simp (disch := omega) only [brF, upd_n, upd_e, sI_n, sI_e, x1]
        · by_cases e2 : x = q
          · subst e2
            simp (disch := omega) only [brF, upd_n, upd_e, sI_n, sI_e, x1]
          · simp (disch := omega) only [brF, upd_n, upd_e, sI_n, sI_e, x1]
      · simp (disch := omega) only [brF, upd_n, upd_e, sI_n, sI_e, x2]
      · simp (disch := omega) only [brF, upd_n, upd_e, sI_n, sI_e, x3]
    · intro k hk'
      simp (disch := omega) only [brF, upd_n, upd_e, sI_n, sI_e, and_self]
    · intro x hx
      refine LRel_c (gL x hx) (fun j j1 j2 => ?_) ?_ (fun i i1 i2 i3 => ?_) (by omega)
      · simp (disch := omega) only [sI_n, sI_e]
      · simp (disch := omega) only [sI_n, sI_e]
      · simp (disch := omega) only [brF, upd_n, upd_e]
    · simp (disch := omega) only [sI_n, sI_e]
      exact gB
    · intro x hx
      by_cases e : x = k
      · subst e
        have r5 : brF c x p q (c (82 + 6 * x + 4)) (82 + 6 * x + 5) = 1 := by simp (disch := omega) only [brF, upd_n, upd_e]
        have ro : ∀ j, j < 5 → brF c x p q (c (82 + 6 * x + 4)) (82 + 6 * x + j) = c (82 + 6 * x + j) := fun j hj => by simp (disch := omega) only [brF, upd_n, upd_e]
        unfold PRel
        rw [r5, show brF c x p q (c (82 + 6 * x + 4)) (82 + 6 * x) = c (82 + 6 * x) from ro 0 (by omega), ro 1 (by omega), ro 2 (by omega), ro 3 (by omega), ro 4 (by omega)]
        simp (disch := omega) only [sI_n, sI_e]
        exact ⟨⟨p0, n, n1, n2, en⟩, ⟨p1, l, hl, el⟩, ⟨p2, p, hp, ep⟩, ⟨p3, q, hq, eq⟩, ⟨p4, f, hf, ef⟩, ⟨by first | rfl | trivial, Or.inr (by first | rfl | trivial)⟩, hne⟩
      · refine PRel_c (gK x hx) (fun j j1 j2 => ?_) (fun j hj => ?_)
        · simp (disch := omega) only [sI_n, sI_e]
        · simp (disch := omega) only [brF, upd_n, upd_e]
    · exact fun k _ => ⟨rfl, rfl⟩
    · intro k k1 k2
      simp (disch := omega) only [sI_n, sI_e]
    · intro k k1
      simp (disch := omega) only [sI_n, sI_e]
    · intro i i1 i2
      simp (disch := omega) only [brF, upd_n, upd_e]
theorem S171_i {i : Nat} (hi : i < 322) : S171 171 i = true := by simp [S171, hi]
theorem Mo_breaks {E : mEn} {d : Nat} {Q : mPost} {σ σ0 : mSt} {t np no nl nk dy k : Nat} {c : Nat → Int32} {w : Nat → Int64} (hT : TRel σ0 t c w np no nl nk dy) (hc : σ.1 171 = c) (hk : k < 2 ^ 31)
    (hQ1 : brOk c nk k → ∀ τ, qt S171 σ τ → τ.1 171 = brG c k → Q (some (.int 1)) τ) (hQ0 : ¬ brOk c nk k → Q (some (.int 0)) σ) : WP E (d + 2) mMo_breaks 0 [.ref 166, .int (nI k)] [] σ Q := by
  obtain ⟨⟨b1, b2, b3, b4, b5⟩, ⟨t1, c1⟩, ⟨t2, c2⟩, ⟨t3, c3⟩, ⟨t4, c4⟩, ⟨t5, c5⟩, c6, gP, gO, gL, gB, gK, -⟩ := id hT
  rw [bMo_breaks_0, Mo_isPromiseAt (by rw [hc]; exact c4) b4, tl_s, bMo_breaks_5]
  by_cases hk1 : k < nk
  rotate_left
  · rw [b2i_f (show ¬ mOut (nI k) nk = false from fun g => hk1 (by obtain ⟨j, hj, e⟩ := mOut_n g; have := (nI_eq hk (by omega)).mp e; omega)), if_pos rfl, bMo_breaks_34]
    exact hQ0 (fun g => hk1 g.1)
  obtain ⟨⟨p0, n, n1, n2, en⟩, ⟨p1, l, hl, el⟩, ⟨p2, p, hp, ep⟩, ⟨p3, q, hq, eq⟩, ⟨p4, f, hf, ef⟩, ⟨p5, hg⟩, hne⟩ := gK k hk1
  have hpq : p ≠ q := fun e => hne (by rw [ep, eq, e])
  rw [b2i_t (mOut_f hk1 (by omega)), if_neg i10, bMo_breaks_8, Mo_isMade (show k < 40 by omega), tl_s, bMo_breaks_13, hc]
  by_cases h5 : c (82 + 6 * k + 5) = 0
  rotate_left
  · rw [b2i_f h5, if_pos rfl, bMo_breaks_34]
    exact hQ0 (fun g => h5 g.2.1)
  rw [b2i_t h5, if_neg i10, bMo_breaks_16, Mo_part, tl_s, bMo_breaks_25, nI_1, mOut_f (by omega) (by omega), nI_clamp (by omega), hc, el, if_neg (by decide), Mo_isBaked (show l < 8 by omega), tl_s, bMo_breaks_31, hc]
  have e74 : (c (82 + 6 * k + 1)).toNatClampNeg = l := by rw [el, nI_clamp (by omega)]
  by_cases hb : c (74 + l) < 0
  rotate_left
  · rw [b2i_t hb, if_neg i10, bMo_breaks_34]
    exact hQ0 (fun g => hb (by rw [← e74]; exact g.2.2))
  have eG : brG c k = brF c k p q (c (82 + 6 * k + 4)) := by unfold brG; rw [ep, eq, nI_clamp (by omega), nI_clamp (by omega)]
  rw [b2i_f (fun g => g hb), if_pos rfl, bMo_breaks_36, Mo_part, tl_s, bMo_breaks_44, nI_add, mOut_f (by omega) (by omega), nI_clamp (by omega), if_neg (by decide), Mo_part, tl_s, bMo_breaks_62]
  simp (disch := omega) only [nI_add, nI_clamp, mOut_f, sI_u, hc, upd_n, upd_e, ep, eq, Mo_part, tl_s, bMo_breaks_76, bMo_breaks_95, bMo_breaks_109, not_true_eq_false, not_false_eq_true, and_self, and_true, true_and, and_false, false_and, or_true, true_or, or_false, false_or, or_self, if_true, if_false, ite_self, eq_self, Bool.false_eq_true, Bool.true_eq_false]
  refine hQ1 ⟨hk1, h5, by rw [e74]; exact hb⟩ _ ?_ ?_
  · repeat' (first | exact qt_rf | refine qt_sI ?_ (S171_i (by omega)))
  · rw [eG]
    simp (disch := omega) only [brF, sI_u, hc, upd_n, upd_e]
def eatM (c : Nat → Int32) (p : Nat) (n : Int32) : Int32 := if c (14 + p) < n then c (14 + p) else n
def eatF (c : Nat → Int32) (p : Nat) (n : Int32) : Nat → Int32 := upd c (14 + p) (c (14 + p) - eatM c p n)
theorem Tw_feast {E : mEn} {d : Nat} {Q : mPost} {σ : mSt} {t np no nl nk dy p : Nat} {n : Int32} {c : Nat → Int32} {w : Nat → Int64} {u : Value} (ht : isT t) (hT : TRel σ t c w np no nl nk dy) (hp : p < np)
    (hQ : ∀ τ, qt (STn t) σ τ → GB σ τ t → TRel τ t (eatF c p n) w np no nl nk dy → Q (some (.int (eatM c p n))) τ) : WP E (d + 1) mTw_feast 0 [.ref t, .int (nI p), .int n, u] [] σ Q := by
  obtain ⟨⟨b1, b2, b3, b4, b5⟩, ⟨t1, c1⟩, ⟨t2, c2⟩, ⟨t3, c3⟩, ⟨t4, c4⟩, ⟨t5, c5⟩, c6, gP, gO, gL, gB, gK, -⟩ := id hT
  rw [bTw_feast_0 ht, Tw_hasPerson ht t1 b1, tl_s, bTw_feast_5 ht, b2i_t (mOut_f hp (by omega)), if_pos i10, bTw_feast_10 ht, mOut_f (by omega) (by omega), nI_clamp (by omega), (gP p hp).2.1]
  simp only [not_true_eq_false, not_false_eq_true, and_self, and_true, true_and, and_false, false_and, or_true, true_or, or_false, false_or, or_self, if_true, if_false, ite_self, eq_self, Bool.false_eq_true, Bool.true_eq_false, bTw_feast_31 ht]
  refine hQ _ ?_ ?_ ?_
  · repeat' (first | exact qt_rf | refine qt_sI ?_ (STn_in (by omega)))
  · exact GB_e (fun k => by simp (disch := omega) only [sI_n, sI_e])
  · refine TRel_c hT b4 b5 ?_ ?_ ?_ ?_ ?_ ?_ ?_ ?_ ?_ ?_ ?_ ?_ ?_ ?_
    · simp (disch := omega) only [sI_n, sI_e, and_self]
    · simp (disch := omega) only [eatF, upd_n, upd_e, and_self]
    · simp (disch := omega) only [eatF, upd_n, upd_e, sI_n, sI_e, t4, c4, and_self]
    · simp (disch := omega) only [eatF, upd_n, upd_e, sI_n, sI_e, t5, c5, and_self]
    · simp (disch := omega) only [eatF, upd_n, upd_e, sI_n, sI_e]
      exact c6
    · intro x hx
      obtain ⟨x1, x2, x3⟩ := gP x hx
      refine ⟨?_, ?_, ?_⟩
      · simp (disch := omega) only [eatF, upd_n, upd_e, sI_n, sI_e, x1]
      · by_cases e : x = p
        · subst e
          simp (disch := omega) only [eatF, eatM, upd_n, upd_e, sI_n, sI_e, x2]
        · simp (disch := omega) only [eatF, upd_n, upd_e, sI_n, sI_e, x2]
      · simp (disch := omega) only [eatF, upd_n, upd_e, sI_n, sI_e, x3]
    · intro k hk'
      simp (disch := omega) only [eatF, upd_n, upd_e, sI_n, sI_e, and_self]
    · intro x hx
      refine LRel_c (gL x hx) (fun j j1 j2 => ?_) ?_ (fun i i1 i2 i3 => ?_) (by omega)
      · simp (disch := omega) only [sI_n, sI_e]
      · simp (disch := omega) only [sI_n, sI_e]
      · simp (disch := omega) only [eatF, upd_n, upd_e]
    · simp (disch := omega) only [sI_n, sI_e]
      exact gB
    · intro x hx
      refine PRel_c (gK x hx) (fun j j1 j2 => ?_) (fun j hj => ?_)
      · simp (disch := omega) only [sI_n, sI_e]
      · simp (disch := omega) only [eatF, upd_n, upd_e]
    · exact fun k _ => ⟨rfl, rfl⟩
    · intro k k1 k2
      simp (disch := omega) only [sI_n, sI_e]
    · intro k k1
      simp (disch := omega) only [sI_n, sI_e]
    · intro i i1 i2
      simp (disch := omega) only [eatF, upd_n, upd_e]
theorem Mo_eats {E : mEn} {d : Nat} {Q : mPost} {σ : mSt} {p : Nat} {n : Int32} {c : Nat → Int32} {u : Value} (hc : σ.1 171 = c) (hp : p < 8) (hQ : ∀ τ, qt S171 σ τ → τ.1 171 = eatF c p n → Q (some (.int (eatM c p n))) τ) : WP E d mMo_eats 0 [.ref 166, .int (nI p), .int n, u] [] σ Q := by
  rw [bMo_eats_0, nI_add, mOut_f (by omega) (by omega), nI_clamp (by omega), hc]
  simp only [not_true_eq_false, not_false_eq_true, and_self, and_true, true_and, and_false, false_and, or_true, true_or, or_false, false_or, or_self, if_true, if_false, ite_self, eq_self, Bool.false_eq_true, Bool.true_eq_false, bMo_eats_27]
  exact hQ _ (qt_sI qt_rf (S171_i (by omega))) (by rw [sI_u, hc]; rfl)
def payF (c : Nat → Int32) (p q : Nat) (n : Int32) : Nat → Int32 := upd (upd c (6 + p) (c (6 + p) - n)) (6 + q) (upd c (6 + p) (c (6 + p) - n) (6 + q) + n)
theorem Tw_handMoney {E : mEn} {d : Nat} {Q : mPost} {σ : mSt} {t np no nl nk dy p q : Nat} {n : Int32} {c : Nat → Int32} {w : Nat → Int64} (ht : isT t) (hT : TRel σ t c w np no nl nk dy) (hp : p < np) (hq : q < np)
    (hQ1 : (p ≠ q ∧ n ≤ c (6 + p)) → ∀ τ, qt (STn t) σ τ → GB σ τ t → TRel τ t (payF c p q n) w np no nl nk dy → Q (some (.int 1)) τ) (hQ0 : ¬ (p ≠ q ∧ n ≤ c (6 + p)) → Q (some (.int 0)) σ) : WP E (d + 1) mTw_handMoney 0 [.ref t, .int (nI p), .int (nI q), .int n] [] σ Q := by
  obtain ⟨⟨b1, b2, b3, b4, b5⟩, ⟨t1, c1⟩, ⟨t2, c2⟩, ⟨t3, c3⟩, ⟨t4, c4⟩, ⟨t5, c5⟩, c6, gP, gO, gL, gB, gK, -⟩ := id hT
  rw [bTw_handMoney_0 ht, Tw_hasPerson ht t1 b1, tl_s, bTw_handMoney_5 ht, b2i_t (mOut_f hp (by omega)), if_neg i10, bTw_handMoney_8 ht, Tw_hasPerson ht t1 b1, tl_s, bTw_handMoney_13 ht, b2i_t (mOut_f hq (by omega)), if_neg i10, bTw_handMoney_16 ht]
  by_cases e : p = q
  · rw [if_pos (by rw [e]), bTw_handMoney_31 ht]
    exact hQ0 (fun g => g.1 e)
  rw [if_neg (fun g => e ((nI_eq (by omega) (by omega)).mp g)), bTw_handMoney_21 ht, mOut_f (by omega) (by omega), nI_clamp (by omega), (gP p hp).1, if_neg (by decide)]
  by_cases z : n ≤ c (6 + p)
  rotate_left
  · rw [if_neg z, bTw_handMoney_31 ht]
    exact hQ0 (fun g => z g.2)
  rw [if_pos z, bTw_handMoney_33 ht, bTw_handMoney_53 ht]
  simp (disch := omega) only [mOut_f, nI_clamp, sI_n, sI_e, (gP p hp).1, (gP q hq).1, not_true_eq_false, not_false_eq_true, and_self, and_true, true_and, and_false, false_and, or_true, true_or, or_false, false_or, or_self, if_true, if_false, ite_self, eq_self, Bool.false_eq_true, Bool.true_eq_false]
  refine hQ1 ⟨e, z⟩ _ ?_ ?_ ?_
  · repeat' (first | exact qt_rf | refine qt_sI ?_ (STn_in (by omega)))
  · exact GB_e (fun k => by simp (disch := omega) only [sI_n, sI_e])
  · refine TRel_c hT b4 b5 ?_ ?_ ?_ ?_ ?_ ?_ ?_ ?_ ?_ ?_ ?_ ?_ ?_ ?_
    · simp (disch := omega) only [sI_n, sI_e, and_self]
    · simp (disch := omega) only [payF, upd_n, upd_e, and_self]
    · simp (disch := omega) only [payF, upd_n, upd_e, sI_n, sI_e, t4, c4, and_self]
    · simp (disch := omega) only [payF, upd_n, upd_e, sI_n, sI_e, t5, c5, and_self]
    · simp (disch := omega) only [payF, upd_n, upd_e, sI_n, sI_e]
      exact c6
    · intro x hx
      obtain ⟨x1, x2, x3⟩ := gP x hx
      refine ⟨?_, ?_, ?_⟩
      · by_cases e : x = p
        · subst e
          simp (disch := omega) only [payF, upd_n, upd_e, sI_n, sI_e, x1]
        · by_cases e2 : x = q
          · subst e2
            simp (disch := omega) only [payF, upd_n, upd_e, sI_n, sI_e, x1]
          · simp (disch := omega) only [payF, upd_n, upd_e, sI_n, sI_e, x1]
      · simp (disch := omega) only [payF, upd_n, upd_e, sI_n, sI_e, x2]
      · simp (disch := omega) only [payF, upd_n, upd_e, sI_n, sI_e, x3]
    · intro k hk'
      simp (disch := omega) only [payF, upd_n, upd_e, sI_n, sI_e, and_self]
    · intro x hx
      refine LRel_c (gL x hx) (fun j j1 j2 => ?_) ?_ (fun i i1 i2 i3 => ?_) (by omega)
      · simp (disch := omega) only [sI_n, sI_e]
      · simp (disch := omega) only [sI_n, sI_e]
      · simp (disch := omega) only [payF, upd_n, upd_e]
    · simp (disch := omega) only [sI_n, sI_e]
      exact gB
    · intro x hx
      refine PRel_c (gK x hx) (fun j j1 j2 => ?_) (fun j hj => ?_)
      · simp (disch := omega) only [sI_n, sI_e]
      · simp (disch := omega) only [payF, upd_n, upd_e]
    · exact fun k _ => ⟨rfl, rfl⟩
    · intro k k1 k2
      simp (disch := omega) only [sI_n, sI_e]
    · intro k k1
      simp (disch := omega) only [sI_n, sI_e]
    · intro i i1 i2
      simp (disch := omega) only [payF, upd_n, upd_e]
theorem Mo_pays {E : mEn} {d : Nat} {Q : mPost} {σ : mSt} {p q : Nat} {n : Int32} {c : Nat → Int32} (hc : σ.1 171 = c) (hp : p < 8) (hq : q < 8)
    (hQ1 : (p ≠ q ∧ n ≤ c (6 + p)) → ∀ τ, qt S171 σ τ → τ.1 171 = payF c p q n → Q (some (.int 1)) τ) (hQ0 : ¬ (p ≠ q ∧ n ≤ c (6 + p)) → Q (some (.int 0)) σ) : WP E d mMo_pays 0 [.ref 166, .int (nI p), .int (nI q), .int n] [] σ Q := by
  rw [bMo_pays_0]
  by_cases e : p = q
  · rw [if_pos (by rw [e]), bMo_pays_18]
    exact hQ0 (fun g => g.1 e)
  rw [if_neg (fun g => e ((nI_eq (by omega) (by omega)).mp g)), bMo_pays_5, nI_add, mOut_f (by omega) (by omega), nI_clamp (by omega), hc, if_neg (by decide)]
  by_cases z : n ≤ c (6 + p)
  rotate_left
  · rw [if_neg z, bMo_pays_18]
    exact hQ0 (fun g => z g.2)
  rw [if_pos z, bMo_pays_20, bMo_pays_46]
  simp (disch := omega) only [nI_add, mOut_f, nI_clamp, not_true_eq_false, not_false_eq_true, and_self, and_true, true_and, and_false, false_and, or_true, true_or, or_false, false_or, or_self, if_true, if_false, ite_self, eq_self, Bool.false_eq_true, Bool.true_eq_false]
  refine hQ1 ⟨e, z⟩ _ ?_ ?_
  · repeat' (first | exact qt_rf | refine qt_sI ?_ (S171_i (by omega)))
  · simp only [sI_u, hc]
    rfl
