/-! burst, net, between, ringAt, lived, many -/
def buF (c : Nat → Int32) (np nk dy : Nat) : Nat → Nat → Int32 → Int32
  | 0, _, s => s
  | j + 1, l, s => buF c np nk dy j (l + 1) (if c (42 + l) < 0 ∧ ¬ c (50 + l) < nI dy ∧ (s = -1 ∨ c (50 + l) < s) ∧ hlB c l np nk = true then c (50 + l) else s)
theorem Pb_burst_loop {E : mEn} {d : Nat} {Q : mPost} {σ : mSt} {np no nl nk dy : Nat} {c : Nat → Int32} {w : Nat → Int64} (hT : TRel σ 10 c w np no nl nk dy) : ∀ (j l : Nat) (s : Int32) (τ : mSt) (u : Value), l + j = nl → qt (SHs 61) σ τ → (∀ υ, qt (SHs 61) σ υ → Q (some (.int (buF c np nk dy j l s))) (sI υ 0 10 (if buF c np nk dy j l s = -1 then nI 8 else 0))) → WP E (d + 6) mPb_burst 4 [.ref 0, .int s, .int (nI l), u] [] τ Q
  | 0, l, s, τ, u, e, q, k => by
    have hT' : TRel τ 10 c w np no nl nk dy := TRel_q q (fun j k hj _ _ => SH_T H61 T10 hj) hT
    obtain ⟨⟨b1, b2, b3, b4, b5⟩, ⟨t1, c1⟩, ⟨t2, c2⟩, ⟨t3, c3⟩, -⟩ := id hT'
    rw [bPb_burst_4, t3, if_pos (nI_le (by omega) (by omega)), bPb_burst_99]
    have := k τ q
    rw [buF] at this
    by_cases z : s = -1
    · rw [ite_nn z, bPb_burst_104, bPb_refuse_0, tl_s, bPb_burst_110, bPb_burst_118]
      rw [if_pos z, z] at this
      exact this
    · rw [if_pos z, bPb_burst_113, bPb_answer_0, tl_s, bPb_burst_118]
      rw [if_neg z] at this
      exact this
  | j + 1, l, s, τ, u, e, q, k => by
    have hT' : TRel τ 10 c w np no nl nk dy := TRel_q q (fun j k hj _ _ => SH_T H61 T10 hj) hT
    obtain ⟨⟨b1, b2, b3, b4, b5⟩, ⟨t1, c1⟩, ⟨t2, c2⟩, ⟨t3, c3⟩, ⟨t4, c4⟩, ⟨t5, c5⟩, c6, gP, gO, gL, gB, gK, -⟩ := id hT'
    have hl : l < nl := by omega
    have e1 : τ.1 (10 + 20) l = c (42 + l) := (gL l hl).2.1.1
    have e2 : τ.1 31 l = c (50 + l) := (gL l hl).2.2.1.1
    have X : ∀ (υ : mSt) (a : Int32), qt (SHs 61) σ υ → ¬ (c (42 + l) < 0 ∧ ¬ c (50 + l) < nI dy ∧ (s = -1 ∨ c (50 + l) < s) ∧ hlB c l np nk = true) → WP E (d + 6) mPb_burst 93 [.ref 0, .int s, .int (nI l), .int a] [] υ Q := fun υ a q h => by
      rw [buF, if_neg h] at k
      rw [bPb_burst_93, nI_1]
      exact Pb_burst_loop hT j (l + 1) s υ _ (by omega) q k
    rw [bPb_burst_4, t3, if_neg (nI_ge (by omega) (by omega)), bPb_burst_15, mOut_f (by omega) (by omega), nI_clamp (by omega), e2, if_neg (by decide), Tw_isPaper T10 t3 b3 hl, tl_s, bPb_burst_33, e1]
    by_cases h1 : c (42 + l) < 0
    rotate_left
    · rw [b2i_f h1, if_pos rfl]
      exact X τ _ q (fun g => h1 g.1)
    rw [b2i_t h1, if_neg i10, bPb_burst_36, t5]
    by_cases h2 : c (50 + l) < nI dy
    · rw [if_pos h2]
      exact X τ _ q (fun g => g.2.1 h2)
    rw [if_neg h2, bPb_burst_47]
    have Y : (s = -1 ∨ c (50 + l) < s) → WP E (d + 6) mPb_burst 60 [.ref 0, .int s, .int (nI l), .int (c (50 + l))] [] τ Q := fun h3 => by
      rw [bPb_burst_60]
      refine Sh_weigh H61 T10 hT' hl (fun υ q2 g => ?_)
      have q' : qt (SHs 61) σ υ := qt_tr q q2
      have hT2 : TRel υ 10 c w np no nl nk dy := TRel_q q' (fun j k hj _ _ => SH_T H61 T10 hj) hT
      have eb : υ.1 29 l = c (34 + l) := (hT2.2.2.2.2.2.2.2.2.2.1 l hl).1.1
      have g2 := g.2
      rw [LF_8 hT hl] at g2
      rw [tl_n, bPb_burst_72, mOut_f (by omega) (by omega), nI_clamp (by omega), eb, if_neg (by decide), Sh_othersHold H61 b1 g2, tl_s, bPb_burst_88]
      by_cases h4 : hlB c l np nk = true
      · rw [buF, if_pos ⟨h1, h2, h3, h4⟩] at k
        rw [b2i_t h4, if_neg i10, bPb_burst_91, bPb_burst_93, nI_1]
        exact Pb_burst_loop hT j (l + 1) _ υ _ (by omega) q' k
      · rw [b2i_f h4, if_pos rfl]
        exact X υ _ q' (fun g => h4 g.2.2.2)
    by_cases h3 : s = -1
    · rw [if_pos h3]
      exact Y (Or.inl h3)
    · rw [if_neg h3, bPb_burst_52]
      by_cases h4 : c (50 + l) < s
      · rw [if_pos h4]
        exact Y (Or.inr h4)
      · rw [if_neg h4, bPb_burst_57]
        exact X τ _ q (fun g => g.2.2.1.elim h3 h4)
theorem Mo_burst_loop {E : mEn} {d : Nat} {Q : mPost} {σ0 : mSt} {np no nl nk dy : Nat} {c : Nat → Int32} {w : Nat → Int64} (hT : TRel σ0 10 c w np no nl nk dy) (c1 : c 0 = nI np) (c3 : c 2 = nI nl) (c4 : c 3 = nI nk) (c5 : c 4 = nI dy) {τ : mSt} (hc : τ.1 171 = c) : ∀ (j l : Nat) (s : Int32), l + j = nl → (s = -1 ∨ ¬ s < 0) → WP E (d + 5) mMo_burst 14 [.ref 166, .int s, .int (nI l)] [] τ Q = if buF c np nk dy j l s = -1 then Q (some (.int (-1))) (sI τ 166 0 (nI 8)) else Q (some (.int (buF c np nk dy j l s))) τ
  | 0, l, s, e, hs => by
    obtain ⟨⟨b1, b2, b3, b4, b5⟩, -⟩ := id hT
    rw [bMo_burst_14, if_neg (by decide), hc, c3, if_pos (nI_le (by omega) (by omega)), bMo_burst_91, buF]
    by_cases z : s = -1
    · rw [if_neg (by rw [z]; decide), if_pos z, bMo_burst_95, bMo_refuse_0, tl_s, bMo_burst_101, bMo_burst_105]
    · rw [if_pos (Int32.not_lt.mp (hs.resolve_left z)), if_neg z, bMo_burst_104, bMo_burst_105]
  | j + 1, l, s, e, hs => by
    obtain ⟨⟨b1, b2, b3, b4, b5⟩, -, -, -, -, -, -, -, -, gL, -⟩ := id hT
    have hl : l < nl := by omega
    have hl8 : l < 8 := by omega
    obtain ⟨y, hy, ey⟩ := (gL l hl).2.2.1.2
    have on0 : ¬ c (50 + l) < 0 := by rw [ey]; exact nI_pos (by omega)
    have IH0 := Mo_burst_loop (E := E) (d := d) (Q := Q) hT c1 c3 c4 c5 hc j (l + 1) s (by omega) hs
    have IH1 := Mo_burst_loop (E := E) (d := d) (Q := Q) hT c1 c3 c4 c5 hc j (l + 1) (c (50 + l)) (by omega) (Or.inr on0)
    have X : ¬ (c (42 + l) < 0 ∧ ¬ c (50 + l) < nI dy ∧ (s = -1 ∨ c (50 + l) < s) ∧ hlB c l np nk = true) → WP E (d + 5) mMo_burst 85 [.ref 166, .int s, .int (nI l)] [] τ Q = if buF c np nk dy (j + 1) l s = -1 then Q (some (.int (-1))) (sI τ 166 0 (nI 8)) else Q (some (.int (buF c np nk dy (j + 1) l s))) τ := fun h => by
      rw [buF, if_neg h, bMo_burst_85, nI_1, IH0]
    have Y : (c (42 + l) < 0 ∧ ¬ c (50 + l) < nI dy ∧ (s = -1 ∨ c (50 + l) < s) ∧ hlB c l np nk = true) → WP E (d + 5) mMo_burst 75 [.ref 166, .int s, .int (nI l)] [] τ Q = if buF c np nk dy (j + 1) l s = -1 then Q (some (.int (-1))) (sI τ 166 0 (nI 8)) else Q (some (.int (buF c np nk dy (j + 1) l s))) τ := fun h => by
      rw [buF, if_pos h, bMo_burst_75, nI_add, mOut_f (by omega) (by omega), nI_clamp (by omega), hc, if_neg (by decide), bMo_burst_85, nI_1, IH1]
    rw [bMo_burst_14, if_neg (by decide), hc, c3, if_neg (nI_ge (by omega) (by omega)), bMo_burst_24, Mo_isPaper hl8, tl_s, bMo_burst_29, hc]
    by_cases h1 : c (42 + l) < 0
    rotate_left
    · rw [b2i_f h1, if_pos rfl]
      exact X (fun g => h1 g.1)
    rw [b2i_t h1, if_neg i10, bMo_burst_32, Mo_isHeld hl8 hc c1 b1 c4 b4, tl_s, bMo_burst_37]
    by_cases h4 : hlB c l np nk = true
    rotate_left
    · rw [b2i_f h4, if_pos rfl]
      exact X (fun g => h4 g.2.2.2)
    rw [b2i_t h4, if_neg i10, bMo_burst_40, nI_add, mOut_f (by omega) (by omega), nI_clamp (by omega), hc, c5, if_neg (by decide), if_neg (by decide)]
    by_cases h2 : c (50 + l) < nI dy
    · rw [if_pos h2]
      exact X (fun g => g.2.1 h2)
    rw [if_neg h2, bMo_burst_58]
    by_cases h3 : s = -1
    · rw [if_pos (by rw [h3]; decide)]
      exact Y ⟨h1, h2, Or.inl h3, h4⟩
    · rw [if_neg (hs.resolve_left h3), bMo_burst_62, nI_add, mOut_f (by omega) (by omega), nI_clamp (by omega), hc, if_neg (by decide)]
      by_cases h5 : c (50 + l) < s
      · rw [if_neg (Int32.not_le.mpr h5)]
        exact Y ⟨h1, h2, Or.inr h5, h4⟩
      · rw [if_pos (Int32.not_lt.mp h5)]
        exact X (fun g => g.2.2.1.elim h3 h5)
theorem P_burst {E : mEn} {d : Nat} {σ : mSt} {u1 u2 u3 u4 u5 : Value} (hI : Inv σ) : pairI E (d + 7) mPb_burst mMo_burst [.ref 0, u1, u2, u3] [.ref 166, u4, u5] σ := by
  obtain ⟨np, no, nl, nk, dy, hT⟩ := Inv_town hI
  obtain ⟨⟨b1, b2, b3, b4, b5⟩, ⟨t1, c1⟩, ⟨t2, c2⟩, ⟨t3, c3⟩, ⟨t4, c4⟩, ⟨t5, c5⟩, c6, gP, gO, gL, gB, gK, -⟩ := id hT
  have hq : ∀ τ : mSt, qt SQ σ τ → (sI (sI τ 166 1 0) 166 0 0).1 171 = σ.1 171 := fun τ q => funext fun k => (q 171 k rfl).1
  have mp := @mpq E σ np c1 b1
  have ml := @mlq E σ nl c3 b3
  have mk := @mkq E σ nk c4 b4
  refine pairI_q hI (buF (σ.1 171) np nk dy nl 0 (-1)) (if buF (σ.1 171) np nk dy nl 0 (-1) = -1 then nI 8 else 0) (fun Q k => ?_) (fun τ q Q k => ?_)
  · rw [bPb_burst_0]
    exact Pb_burst_loop hT nl 0 (-1) σ _ (by omega) qt_rf (fun υ q => k _ (qt_sI (qt_mono q (fun o k => SH_SQ)) rfl) rfl)
  · rw [bMo_burst_0]
    refine Eq.mpr (Mo_burst_loop (τ := sI (sI τ 166 1 0) 166 0 0) hT c1 c3 c4 c5 (hq τ q) nl 0 (-1) (by omega) (Or.inl rfl)) ?_
    by_cases z : buF (σ.1 171) np nk dy nl 0 (-1) = -1
    · rw [if_pos z]
      rw [if_pos z, z] at k
      exact k _ (by repeat' (first | exact qt_rf | assumption | refine qt_sI ?_ rfl | refine qt_sL ?_ rfl)) rfl rfl
    · rw [if_neg z]
      rw [if_neg z] at k
      exact k _ (by repeat' (first | exact qt_rf | assumption | refine qt_sI ?_ rfl | refine qt_sL ?_ rfl)) rfl rfl
/-- NET by the first k promises -/
def nF (c : Nat → Int32) (a : Int32) : Nat → Int32
  | 0 => 0
  | k + 1 => if c (82 + 6 * k + 5) = 0 then nF c a k + (if c (82 + 6 * k + 3) = a then c (82 + 6 * k) else 0) - (if c (82 + 6 * k + 2) = a then c (82 + 6 * k) else 0) else nF c a k
theorem Pr_surplus_loop {E : mEn} {d : Nat} {Q : mPost} {σ : mSt} {t np nl nk : Nat} {c : Nat → Int32} {a : Int32} (ht : isT t) (hk : σ.1 (t + 3) 8 = nI nk) (hn : nk ≤ 40) (hP : ∀ k, k < nk → PRel σ t c np nl k) : ∀ (j k : Nat) (n : Int32), k + j = nk → n = nF c a k → WP E (d + 2) mPr_surplus 4 [.ref (t + 3), .int a, .int n, .int (nI k)] [] σ Q = Q (some (.int (nF c a nk))) σ
  | 0, k, n, e, h => by
    have e' : k = nk := by omega
    subst e'
    rw [bPr_surplus_4 ht, hk, if_pos (Int32.le_refl _), bPr_surplus_72 ht, h]
  | j + 1, k, n, e, h => by
    obtain ⟨⟨p1, -⟩, -, ⟨p3, -⟩, ⟨p4, -⟩, -, ⟨p6, -⟩, -⟩ := hP k (by omega)
    have IH := fun n => Pr_surplus_loop (E := E) (d := d) (Q := Q) (a := a) ht hk hn hP j (k + 1) n (by omega)
    have st := fun (Q : mPost) => Pr_stands (E := E) (d := d) (Q := Q) ht hk hn (show k < nk by omega)
    rw [p6] at st
    rw [bPr_surplus_4 ht, hk, if_neg (nI_ge (by omega) (by omega)), bPr_surplus_12 ht, st, tl_s, bPr_surplus_17 ht]
    by_cases h1 : c (82 + 6 * k + 5) = 0
    rotate_left
    · rw [b2i_f h1, if_pos rfl, bPr_surplus_39 ht, st, tl_s, bPr_surplus_44 ht, b2i_f h1, if_pos rfl, bPr_surplus_66 ht, nI_1]
      exact IH _ (by rw [nF, if_neg h1, h])
    have A : ∀ n, WP E (d + 2) mPr_surplus 39 [.ref (t + 3), .int a, .int n, .int (nI k)] [] σ Q = WP E (d + 2) mPr_surplus 4 [.ref (t + 3), .int a, .int (n - (if c (82 + 6 * k + 2) = a then c (82 + 6 * k) else 0)), .int (nI (k + 1))] [] σ Q := fun n => by
      rw [bPr_surplus_39 ht, st, tl_s, bPr_surplus_44 ht, b2i_t h1, if_neg i10, bPr_surplus_47 ht, mOut_f (by omega) (by omega), nI_clamp (by omega), p3, if_neg (show ¬ false = true by decide)]
      by_cases h2 : c (82 + 6 * k + 2) = a
      · rw [ite_nn h2, if_pos h2, bPr_surplus_57 ht, mOut_f (by omega) (by omega), nI_clamp (by omega), p1, if_neg (show ¬ false = true by decide), bPr_surplus_66 ht, nI_1]
      · rw [if_pos h2, if_neg h2, bPr_surplus_66 ht, nI_1, Int32.sub_zero]
    rw [b2i_t h1, if_neg i10, bPr_surplus_20 ht, mOut_f (by omega) (by omega), nI_clamp (by omega), p4, if_neg (show ¬ false = true by decide)]
    by_cases h2 : c (82 + 6 * k + 3) = a
    · rw [ite_nn h2, bPr_surplus_30 ht, mOut_f (by omega) (by omega), nI_clamp (by omega), p1, if_neg (show ¬ false = true by decide), A]
      exact IH _ (by rw [nF, if_pos h1, h, if_pos h2])
    · rw [if_pos h2, A]
      exact IH _ (by rw [nF, if_pos h1, h, if_neg h2, Int32.add_zero])
theorem Pr_surplus {E : mEn} {d : Nat} {Q : mPost} {σ : mSt} {t np no nl nk dy : Nat} {c : Nat → Int32} {w : Nat → Int64} {a : Int32} {u1 u2 : Value} (ht : isT t) (hT : TRel σ t c w np no nl nk dy) : WP E (d + 2) mPr_surplus 0 [.ref (t + 3), .int a, u1, u2] [] σ Q = Q (some (.int (nF c a nk))) σ := by
  obtain ⟨⟨b1, b2, b3, b4, b5⟩, ⟨t1, c1⟩, ⟨t2, c2⟩, ⟨t3, c3⟩, ⟨t4, c4⟩, ⟨t5, c5⟩, c6, gP, gO, gL, gB, gK, -⟩ := id hT
  rw [bPr_surplus_0 ht]
  exact Pr_surplus_loop ht t4 b4 gK nk 0 0 (by omega) rfl
theorem Mo_net_loop {E : mEn} {d : Nat} {σ : mSt} {Q : mPost} {a : Int32} {nk : Nat} (hk : σ.1 171 3 = nI nk) (hn : nk ≤ 40) : ∀ (j k : Nat) (n : Int32), k + j = nk → n = nF (σ.1 171) a k → WP E (d + 2) mMo_netOf 4 [.ref 166, .int a, .int n, .int (nI k)] [] σ Q = Q (some (.int (nF (σ.1 171) a nk))) σ
  | 0, k, n, h, e => by
    have e2 : k = nk := by omega
    rw [bMo_netOf_4, mOut_f (by omega) (by omega), hk, if_neg (by decide), if_pos (nI_le (by omega) (by omega)), bMo_netOf_93, e, e2]
  | j + 1, k, n, h, e => by
    rw [bMo_netOf_4, mOut_f (by omega) (by omega), hk, if_neg (by decide), if_neg (nI_ge (by omega) (by omega))]
    by_cases h1 : σ.1 171 (82 + 6 * k + 5) = 0
    · by_cases h3 : σ.1 171 (82 + 6 * k + 3) = a <;> by_cases h2 : σ.1 171 (82 + 6 * k + 2) = a
      all_goals
        simp (disch := first | omega | assumption | exact b2i_or | exact T10 | exact Or.inl rfl | exact Or.inr rfl) only [bMo_netOf_0, bMo_netOf_14, bMo_netOf_19, bMo_netOf_22, bMo_netOf_25, bMo_netOf_34, bMo_netOf_41, bMo_netOf_49, bMo_netOf_53, bMo_netOf_54, bMo_netOf_65, bMo_netOf_72, bMo_netOf_80, bMo_netOf_84, bMo_netOf_85, bMo_netOf_87, bMo_netOf_93, Mo_isMade (show k < 40 by omega), b2i_t h1, i10, Mo_part, tl_s, nI_add, nI_1, pk_mul, mOut_f, nI_clamp, h3, h2, not_true_eq_false, not_false_eq_true, and_self, and_true, true_and, and_false, false_and, or_true, true_or, or_false, false_or, or_self, if_true, if_false, ite_self, eq_self, Bool.false_eq_true, Bool.true_eq_false]
        exact Mo_net_loop hk hn j (k + 1) _ (by omega) (by simp only [nF, h1, h2, h3, e, not_true_eq_false, not_false_eq_true, and_self, and_true, true_and, and_false, false_and, or_true, true_or, or_false, false_or, or_self, if_true, if_false, ite_self, eq_self, Bool.false_eq_true, Bool.true_eq_false])
    · simp (disch := first | omega | assumption | exact b2i_or | exact T10 | exact Or.inl rfl | exact Or.inr rfl) only [bMo_netOf_0, bMo_netOf_14, bMo_netOf_19, bMo_netOf_22, bMo_netOf_25, bMo_netOf_34, bMo_netOf_41, bMo_netOf_49, bMo_netOf_53, bMo_netOf_54, bMo_netOf_65, bMo_netOf_72, bMo_netOf_80, bMo_netOf_84, bMo_netOf_85, bMo_netOf_87, bMo_netOf_93, Mo_isMade (show k < 40 by omega), b2i_f h1, tl_s, nI_1, not_true_eq_false, not_false_eq_true, and_self, and_true, true_and, and_false, false_and, or_true, true_or, or_false, false_or, or_self, if_true, if_false, ite_self, eq_self, Bool.false_eq_true, Bool.true_eq_false]
      exact Mo_net_loop hk hn j (k + 1) _ (by omega) (by rw [nF, if_neg h1, e])
theorem Mo_netOf {E : mEn} {d : Nat} {σ : mSt} {Q : mPost} {a : Int32} {nk : Nat} {u1 u2 : Value} (hk : σ.1 171 3 = nI nk) (hn : nk ≤ 40) : WP E (d + 2) mMo_netOf 0 [.ref 166, .int a, u1, u2] [] σ Q = Q (some (.int (nF (σ.1 171) a nk))) σ := by
  rw [bMo_netOf_0]
  exact Mo_net_loop hk hn nk 0 0 (by omega) rfl
theorem P_net {E : mEn} {d : Nat} {σ : mSt} {a : Int32} (hI : Inv σ) : pairI E (d + 5) mPb_net mMo_net [.ref 0, .int a] [.ref 166, .int a] σ := by
  obtain ⟨np, no, nl, nk, dy, hT⟩ := Inv_town hI
  obtain ⟨⟨b1, b2, b3, b4, b5⟩, ⟨t1, c1⟩, ⟨t2, c2⟩, ⟨t3, c3⟩, ⟨t4, c4⟩, ⟨t5, c5⟩, c6, gP, gO, gL, gB, gK, -⟩ := id hT
  have hq : ∀ τ : mSt, qt SQ σ τ → (sI (sI τ 166 1 0) 166 0 0).1 171 = σ.1 171 := fun τ q => funext fun k => (q 171 k rfl).1
  have mp := @mpq E σ np c1 b1
  have ml := @mlq E σ nl c3 b3
  have mk := @mkq E σ nk c4 b4
  by_cases ha : mOut a np = false
  rotate_left
  · refine pairI_q hI (-1) (nI 2) (fun Q k => ?_) (fun τ q Q k => ?_)
    · simp only [bPb_net_0, bPb_net_8, bPb_net_11, bPb_net_16, bPb_net_17, bPb_net_29, bPb_net_32, Tw_hasPerson T10 t1 b1, Tw_hasLoaf T10 t3 b3, Pr_has T10 t4 b4, tl_s, bPb_refuse_0, b2i_f ha, b2i_T, b2i_F, i10, not_true_eq_false, not_false_eq_true, and_self, and_true, true_and, and_false, false_and, or_true, true_or, or_false, false_or, or_self, if_true, if_false, ite_self, eq_self, Bool.false_eq_true, Bool.true_eq_false]
      exact k _ (by repeat' (first | exact qt_rf | assumption | refine qt_sI ?_ rfl | refine qt_sL ?_ rfl)) rfl
    · simp only [bMo_net_0, bMo_net_15, bMo_net_18, bMo_net_23, bMo_net_26, bMo_net_31, mp τ q, ml τ q, mk τ q, tl_s, bMo_refuse_0, b2i_f ha, b2i_T, b2i_F, i10, not_true_eq_false, not_false_eq_true, and_self, and_true, true_and, and_false, false_and, or_true, true_or, or_false, false_or, or_self, if_true, if_false, ite_self, eq_self, Bool.false_eq_true, Bool.true_eq_false]
      exact k _ (by repeat' (first | exact qt_rf | assumption | refine qt_sI ?_ rfl | refine qt_sL ?_ rfl)) rfl rfl
  refine pairI_q hI (nF (σ.1 171) a nk) 0 (fun Q k => ?_) (fun τ q Q k => ?_)
  · simp only [bPb_net_0, bPb_net_8, bPb_net_11, bPb_net_16, bPb_net_17, bPb_net_29, bPb_net_32, Tw_hasPerson T10 t1 b1, Tw_hasLoaf T10 t3 b3, Pr_has T10 t4 b4, tl_s, b2i_t ha, b2i_T, b2i_F, i10, not_true_eq_false, not_false_eq_true, and_self, and_true, true_and, and_false, false_and, or_true, true_or, or_false, false_or, or_self, if_true, if_false, ite_self, eq_self, Bool.false_eq_true, Bool.true_eq_false]
    refine Eq.mpr (Pr_surplus T10 hT) ?_
    simp only [tl_s, bPb_net_29, bPb_answer_0, bPb_net_32]
    exact k _ (by repeat' (first | exact qt_rf | assumption | refine qt_sI ?_ rfl | refine qt_sL ?_ rfl)) rfl
  · simp only [bMo_net_0, bMo_net_15, bMo_net_18, bMo_net_23, bMo_net_26, bMo_net_31, mp τ q, ml τ q, mk τ q, tl_s, b2i_t ha, b2i_T, b2i_F, i10, not_true_eq_false, not_false_eq_true, and_self, and_true, true_and, and_false, false_and, or_true, true_or, or_false, false_or, or_self, if_true, if_false, ite_self, eq_self, Bool.false_eq_true, Bool.true_eq_false]
    refine Eq.mpr (Mo_netOf (σ := sI (sI τ 166 1 0) 166 0 0) (by rw [hq τ q]; exact c4) b4) ?_
    simp only [tl_s, bMo_net_23, bMo_net_31, hq τ q]
    exact k _ (by repeat' (first | exact qt_rf | assumption | refine qt_sI ?_ rfl | refine qt_sL ?_ rfl)) rfl rfl
/-- handed over by the first k promises -/
def hdF (c : Nat → Int32) (a b : Int32) : Nat → Int32
  | 0 => 0
  | k + 1 => if c (82 + 6 * k + 5) = 0 ∧ c (82 + 6 * k + 2) = a ∧ c (82 + 6 * k + 3) = b then hdF c a b k + c (82 + 6 * k) else hdF c a b k
theorem Pr_handed_loop {E : mEn} {d : Nat} {Q : mPost} {σ : mSt} {t np nl nk : Nat} {c : Nat → Int32} {a b : Int32} (ht : isT t) (hk : σ.1 (t + 3) 8 = nI nk) (hn : nk ≤ 40) (hP : ∀ k, k < nk → PRel σ t c np nl k) : ∀ (j k : Nat) (n : Int32), k + j = nk → n = hdF c a b k → WP E (d + 2) mPr_handed 5 [.ref (t + 3), .int a, .int b, .int n, .int (nI k)] [] σ Q = Q (some (.int (hdF c a b nk))) σ
  | 0, k, n, e, h => by
    have e' : k = nk := by omega
    subst e'
    rw [bPr_handed_5 ht, hk, if_pos (Int32.le_refl _), bPr_handed_61 ht, h]
  | j + 1, k, n, e, h => by
    obtain ⟨⟨p1, -⟩, -, ⟨p3, -⟩, ⟨p4, -⟩, -, ⟨p6, -⟩, -⟩ := hP k (by omega)
    have IH := fun n => Pr_handed_loop (E := E) (d := d) (Q := Q) (a := a) (b := b) ht hk hn hP j (k + 1) n (by omega)
    rw [bPr_handed_5 ht, hk, if_neg (nI_ge (by omega) (by omega)), bPr_handed_14 ht, Pr_stands ht hk hn (show k < nk by omega), tl_s, bPr_handed_20 ht, p6]
    by_cases h1 : c (82 + 6 * k + 5) = 0
    rotate_left
    · rw [b2i_f h1, if_pos rfl, bPr_handed_55 ht, nI_1]
      exact IH _ (by rw [hdF, if_neg (fun g => h1 g.1), h])
    rw [b2i_t h1, if_neg i10, bPr_handed_23 ht, mOut_f (by omega) (by omega), nI_clamp (by omega), p3, if_neg (show ¬ false = true by decide)]
    by_cases h2 : c (82 + 6 * k + 2) = a
    rotate_left
    · rw [if_pos h2, bPr_handed_55 ht, nI_1]
      exact IH _ (by rw [hdF, if_neg (fun g => h2 g.2.1), h])
    rw [ite_nn h2, bPr_handed_34 ht, mOut_f (by omega) (by omega), nI_clamp (by omega), p4, if_neg (show ¬ false = true by decide)]
    by_cases h3 : c (82 + 6 * k + 3) = b
    rotate_left
    · rw [if_pos h3, bPr_handed_55 ht, nI_1]
      exact IH _ (by rw [hdF, if_neg (fun g => h3 g.2.2), h])
    rw [ite_nn h3, bPr_handed_45 ht, mOut_f (by omega) (by omega), nI_clamp (by omega), p1, if_neg (show ¬ false = true by decide), bPr_handed_55 ht, nI_1]
    exact IH _ (by rw [hdF, if_pos ⟨h1, h2, h3⟩, h])
theorem Pr_handed {E : mEn} {d : Nat} {Q : mPost} {σ : mSt} {t np no nl nk dy : Nat} {c : Nat → Int32} {w : Nat → Int64} {a b : Int32} {u1 u2 : Value} (ht : isT t) (hT : TRel σ t c w np no nl nk dy) : WP E (d + 2) mPr_handed 0 [.ref (t + 3), .int a, .int b, u1, u2] [] σ Q = Q (some (.int (hdF c a b nk))) σ := by
  obtain ⟨⟨b1, b2, b3, b4, b5⟩, ⟨t1, c1⟩, ⟨t2, c2⟩, ⟨t3, c3⟩, ⟨t4, c4⟩, ⟨t5, c5⟩, c6, gP, gO, gL, gB, gK, -⟩ := id hT
  rw [bPr_handed_0 ht]
  exact Pr_handed_loop ht t4 b4 gK nk 0 0 (by omega) rfl
theorem sub3 {x y z : Int32} : x + z - y = x - y + z := by
  rw [Int32.sub_eq_add_neg, Int32.sub_eq_add_neg, Int32.add_assoc, Int32.add_assoc, Int32.add_comm z]
theorem sub4 {x y z : Int32} : x - (y + z) = x - y - z := by
  rw [Int32.sub_eq_add_neg, Int32.sub_eq_add_neg, Int32.sub_eq_add_neg, Int32.neg_add, Int32.add_assoc, Int32.sub_eq_add_neg]
theorem Mo_betw_loop {E : mEn} {d : Nat} {σ : mSt} {Q : mPost} {a b : Int32} {nk : Nat} (hk : σ.1 171 3 = nI nk) (hn : nk ≤ 40) (hab : ¬ a = b) : ∀ (j k : Nat) (n : Int32), k + j = nk → n = hdF (σ.1 171) a b k - hdF (σ.1 171) b a k → WP E (d + 2) mMo_between 48 [.ref 166, .int a, .int b, .int n, .int (nI k)] [] σ Q = Q (some (.int (hdF (σ.1 171) a b nk - hdF (σ.1 171) b a nk))) σ
  | 0, k, n, h, e => by
    have e2 : k = nk := by omega
    rw [bMo_between_48, mOut_f (by omega) (by omega), hk, if_neg (by decide), if_pos (nI_le (by omega) (by omega)), bMo_between_175, e, e2]
  | j + 1, k, n, h, e => by
    have hba : ¬ b = a := fun q => hab q.symm
    rw [bMo_between_48, mOut_f (by omega) (by omega), hk, if_neg (by decide), if_neg (nI_ge (by omega) (by omega))]
    by_cases h1 : σ.1 171 (82 + 6 * k + 5) = 0
    · by_cases h2 : σ.1 171 (82 + 6 * k + 2) = a
      · by_cases h3 : σ.1 171 (82 + 6 * k + 3) = b
        · simp (disch := first | omega | assumption | exact b2i_or | exact T10 | exact Or.inl rfl | exact Or.inr rfl) only [bMo_between_0, bMo_between_15, bMo_between_18, bMo_between_23, bMo_between_26, bMo_between_31, bMo_between_32, bMo_between_37, bMo_between_42, bMo_between_43, bMo_between_59, bMo_between_65, bMo_between_68, bMo_between_71, bMo_between_81, bMo_between_88, bMo_between_97, bMo_between_104, bMo_between_113, bMo_between_117, bMo_between_118, bMo_between_130, bMo_between_137, bMo_between_146, bMo_between_153, bMo_between_162, bMo_between_166, bMo_between_167, bMo_between_169, bMo_between_175, Mo_isMade (show k < 40 by omega), b2i_t h1, i10, Mo_part, tl_s, nI_add, nI_1, pk_mul, mOut_f, nI_clamp, h3, h2, hab, Int32.sub_zero, not_true_eq_false, not_false_eq_true, and_self, and_true, true_and, and_false, false_and, or_true, true_or, or_false, false_or, or_self, if_true, if_false, ite_self, eq_self, Bool.false_eq_true, Bool.true_eq_false]
          exact Mo_betw_loop hk hn hab j (k + 1) _ (by omega) (by simp only [hdF, h1, h2, h3, hab, hba, e, sub3, not_true_eq_false, not_false_eq_true, and_self, and_true, true_and, and_false, false_and, or_true, true_or, or_false, false_or, or_self, if_true, if_false, ite_self, eq_self, Bool.false_eq_true, Bool.true_eq_false])
        · simp (disch := first | omega | assumption | exact b2i_or | exact T10 | exact Or.inl rfl | exact Or.inr rfl) only [bMo_between_0, bMo_between_15, bMo_between_18, bMo_between_23, bMo_between_26, bMo_between_31, bMo_between_32, bMo_between_37, bMo_between_42, bMo_between_43, bMo_between_59, bMo_between_65, bMo_between_68, bMo_between_71, bMo_between_81, bMo_between_88, bMo_between_97, bMo_between_104, bMo_between_113, bMo_between_117, bMo_between_118, bMo_between_130, bMo_between_137, bMo_between_146, bMo_between_153, bMo_between_162, bMo_between_166, bMo_between_167, bMo_between_169, bMo_between_175, Mo_isMade (show k < 40 by omega), b2i_t h1, i10, Mo_part, tl_s, nI_add, nI_1, pk_mul, mOut_f, nI_clamp, h3, h2, hab, Int32.sub_zero, Int32.add_zero, not_true_eq_false, not_false_eq_true, and_self, and_true, true_and, and_false, false_and, or_true, true_or, or_false, false_or, or_self, if_true, if_false, ite_self, eq_self, Bool.false_eq_true, Bool.true_eq_false]
          exact Mo_betw_loop hk hn hab j (k + 1) _ (by omega) (by simp only [hdF, h1, h2, h3, hab, hba, e, not_true_eq_false, not_false_eq_true, and_self, and_true, true_and, and_false, false_and, or_true, true_or, or_false, false_or, or_self, if_true, if_false, ite_self, eq_self, Bool.false_eq_true, Bool.true_eq_false])
      · by_cases h4 : σ.1 171 (82 + 6 * k + 2) = b
        · by_cases h3 : σ.1 171 (82 + 6 * k + 3) = a
          · simp (disch := first | omega | assumption | exact b2i_or | exact T10 | exact Or.inl rfl | exact Or.inr rfl) only [bMo_between_0, bMo_between_15, bMo_between_18, bMo_between_23, bMo_between_26, bMo_between_31, bMo_between_32, bMo_between_37, bMo_between_42, bMo_between_43, bMo_between_59, bMo_between_65, bMo_between_68, bMo_between_71, bMo_between_81, bMo_between_88, bMo_between_97, bMo_between_104, bMo_between_113, bMo_between_117, bMo_between_118, bMo_between_130, bMo_between_137, bMo_between_146, bMo_between_153, bMo_between_162, bMo_between_166, bMo_between_167, bMo_between_169, bMo_between_175, Mo_isMade (show k < 40 by omega), b2i_t h1, i10, Mo_part, tl_s, nI_add, nI_1, pk_mul, mOut_f, nI_clamp, h3, h4, hab, hba, Int32.sub_zero, Int32.add_zero, not_true_eq_false, not_false_eq_true, and_self, and_true, true_and, and_false, false_and, or_true, true_or, or_false, false_or, or_self, if_true, if_false, ite_self, eq_self, Bool.false_eq_true, Bool.true_eq_false]
            exact Mo_betw_loop hk hn hab j (k + 1) _ (by omega) (by simp only [hdF, h1, h4, h3, hab, hba, e, sub4, not_true_eq_false, not_false_eq_true, and_self, and_true, true_and, and_false, false_and, or_true, true_or, or_false, false_or, or_self, if_true, if_false, ite_self, eq_self, Bool.false_eq_true, Bool.true_eq_false])
          · simp (disch := first | omega | assumption | exact b2i_or | exact T10 | exact Or.inl rfl | exact Or.inr rfl) only [bMo_between_0, bMo_between_15, bMo_between_18, bMo_between_23, bMo_between_26, bMo_between_31, bMo_between_32, bMo_between_37, bMo_between_42, bMo_between_43, bMo_between_59, bMo_between_65, bMo_between_68, bMo_between_71, bMo_between_81, bMo_between_88, bMo_between_97, bMo_between_104, bMo_between_113, bMo_between_117, bMo_between_118, bMo_between_130, bMo_between_137, bMo_between_146, bMo_between_153, bMo_between_162, bMo_between_166, bMo_between_167, bMo_between_169, bMo_between_175, Mo_isMade (show k < 40 by omega), b2i_t h1, i10, Mo_part, tl_s, nI_add, nI_1, pk_mul, mOut_f, nI_clamp, h3, h4, hab, hba, Int32.sub_zero, Int32.add_zero, not_true_eq_false, not_false_eq_true, and_self, and_true, true_and, and_false, false_and, or_true, true_or, or_false, false_or, or_self, if_true, if_false, ite_self, eq_self, Bool.false_eq_true, Bool.true_eq_false]
            exact Mo_betw_loop hk hn hab j (k + 1) _ (by omega) (by simp only [hdF, h1, h4, h3, hab, hba, e, not_true_eq_false, not_false_eq_true, and_self, and_true, true_and, and_false, false_and, or_true, true_or, or_false, false_or, or_self, if_true, if_false, ite_self, eq_self, Bool.false_eq_true, Bool.true_eq_false])
        · simp (disch := first | omega | assumption | exact b2i_or | exact T10 | exact Or.inl rfl | exact Or.inr rfl) only [bMo_between_0, bMo_between_15, bMo_between_18, bMo_between_23, bMo_between_26, bMo_between_31, bMo_between_32, bMo_between_37, bMo_between_42, bMo_between_43, bMo_between_59, bMo_between_65, bMo_between_68, bMo_between_71, bMo_between_81, bMo_between_88, bMo_between_97, bMo_between_104, bMo_between_113, bMo_between_117, bMo_between_118, bMo_between_130, bMo_between_137, bMo_between_146, bMo_between_153, bMo_between_162, bMo_between_166, bMo_between_167, bMo_between_169, bMo_between_175, Mo_isMade (show k < 40 by omega), b2i_t h1, i10, Mo_part, tl_s, nI_add, nI_1, pk_mul, mOut_f, nI_clamp, h2, h4, Int32.sub_zero, Int32.add_zero, not_true_eq_false, not_false_eq_true, and_self, and_true, true_and, and_false, false_and, or_true, true_or, or_false, false_or, or_self, if_true, if_false, ite_self, eq_self, Bool.false_eq_true, Bool.true_eq_false]
          exact Mo_betw_loop hk hn hab j (k + 1) _ (by omega) (by simp only [hdF, h1, h4, h2, e, not_true_eq_false, not_false_eq_true, and_self, and_true, true_and, and_false, false_and, or_true, true_or, or_false, false_or, or_self, if_true, if_false, ite_self, eq_self, Bool.false_eq_true, Bool.true_eq_false])
    · simp (disch := first | omega | assumption | exact b2i_or | exact T10 | exact Or.inl rfl | exact Or.inr rfl) only [bMo_between_0, bMo_between_15, bMo_between_18, bMo_between_23, bMo_between_26, bMo_between_31, bMo_between_32, bMo_between_37, bMo_between_42, bMo_between_43, bMo_between_59, bMo_between_65, bMo_between_68, bMo_between_71, bMo_between_81, bMo_between_88, bMo_between_97, bMo_between_104, bMo_between_113, bMo_between_117, bMo_between_118, bMo_between_130, bMo_between_137, bMo_between_146, bMo_between_153, bMo_between_162, bMo_between_166, bMo_between_167, bMo_between_169, bMo_between_175, Mo_isMade (show k < 40 by omega), b2i_f h1, tl_s, nI_1, not_true_eq_false, not_false_eq_true, and_self, and_true, true_and, and_false, false_and, or_true, true_or, or_false, false_or, or_self, if_true, if_false, ite_self, eq_self, Bool.false_eq_true, Bool.true_eq_false]
      exact Mo_betw_loop hk hn hab j (k + 1) _ (by omega) (by simp only [hdF, h1, e, not_true_eq_false, not_false_eq_true, and_self, and_true, true_and, and_false, false_and, or_true, true_or, or_false, false_or, or_self, if_true, if_false, ite_self, eq_self, Bool.false_eq_true, Bool.true_eq_false])
theorem P_between {E : mEn} {d : Nat} {σ : mSt} {a b : Int32} {u1 u2 : Value} (hI : Inv σ) : pairI E (d + 5) mPb_between mMo_between [.ref 0, .int a, .int b] [.ref 166, .int a, .int b, u1, u2] σ := by
  obtain ⟨np, no, nl, nk, dy, hT⟩ := Inv_town hI
  obtain ⟨⟨b1, b2, b3, b4, b5⟩, ⟨t1, c1⟩, ⟨t2, c2⟩, ⟨t3, c3⟩, ⟨t4, c4⟩, ⟨t5, c5⟩, c6, gP, gO, gL, gB, gK, -⟩ := id hT
  have hq : ∀ τ : mSt, qt SQ σ τ → (sI (sI τ 166 1 0) 166 0 0).1 171 = σ.1 171 := fun τ q => funext fun k => (q 171 k rfl).1
  have mp := @mpq E σ np c1 b1
  have ml := @mlq E σ nl c3 b3
  have mk := @mkq E σ nk c4 b4
  by_cases ha : mOut a np = false
  rotate_left
  · refine pairI_q hI (-1) (nI 2) (fun Q k => ?_) (fun τ q Q k => ?_)
    · simp only [bPb_between_0, bPb_between_8, bPb_between_11, bPb_between_19, bPb_between_22, bPb_between_27, bPb_between_28, bPb_between_33, bPb_between_38, bPb_between_39, bPb_between_52, bPb_between_64, bPb_between_68, Tw_hasPerson T10 t1 b1, Tw_hasLoaf T10 t3 b3, Pr_has T10 t4 b4, tl_s, bPb_refuse_0, b2i_f ha, b2i_T, b2i_F, i10, not_true_eq_false, not_false_eq_true, and_self, and_true, true_and, and_false, false_and, or_true, true_or, or_false, false_or, or_self, if_true, if_false, ite_self, eq_self, Bool.false_eq_true, Bool.true_eq_false]
      exact k _ (by repeat' (first | exact qt_rf | assumption | refine qt_sI ?_ rfl | refine qt_sL ?_ rfl)) rfl
    · simp only [bMo_between_0, bMo_between_15, bMo_between_18, bMo_between_23, bMo_between_26, bMo_between_31, bMo_between_32, bMo_between_37, bMo_between_42, bMo_between_43, bMo_between_59, bMo_between_65, bMo_between_68, bMo_between_71, bMo_between_81, bMo_between_88, bMo_between_97, bMo_between_104, bMo_between_113, bMo_between_117, bMo_between_118, bMo_between_130, bMo_between_137, bMo_between_146, bMo_between_153, bMo_between_162, bMo_between_166, bMo_between_167, bMo_between_169, bMo_between_175, mp τ q, ml τ q, mk τ q, tl_s, bMo_refuse_0, b2i_f ha, b2i_T, b2i_F, i10, not_true_eq_false, not_false_eq_true, and_self, and_true, true_and, and_false, false_and, or_true, true_or, or_false, false_or, or_self, if_true, if_false, ite_self, eq_self, Bool.false_eq_true, Bool.true_eq_false]
      exact k _ (by repeat' (first | exact qt_rf | assumption | refine qt_sI ?_ rfl | refine qt_sL ?_ rfl)) rfl rfl
  by_cases hb : mOut b np = false
  rotate_left
  · refine pairI_q hI (-1) (nI 2) (fun Q k => ?_) (fun τ q Q k => ?_)
    · simp only [bPb_between_0, bPb_between_8, bPb_between_11, bPb_between_19, bPb_between_22, bPb_between_27, bPb_between_28, bPb_between_33, bPb_between_38, bPb_between_39, bPb_between_52, bPb_between_64, bPb_between_68, Tw_hasPerson T10 t1 b1, Tw_hasLoaf T10 t3 b3, Pr_has T10 t4 b4, tl_s, bPb_refuse_0, b2i_t ha, b2i_f hb, b2i_T, b2i_F, i10, not_true_eq_false, not_false_eq_true, and_self, and_true, true_and, and_false, false_and, or_true, true_or, or_false, false_or, or_self, if_true, if_false, ite_self, eq_self, Bool.false_eq_true, Bool.true_eq_false]
      exact k _ (by repeat' (first | exact qt_rf | assumption | refine qt_sI ?_ rfl | refine qt_sL ?_ rfl)) rfl
    · simp only [bMo_between_0, bMo_between_15, bMo_between_18, bMo_between_23, bMo_between_26, bMo_between_31, bMo_between_32, bMo_between_37, bMo_between_42, bMo_between_43, bMo_between_59, bMo_between_65, bMo_between_68, bMo_between_71, bMo_between_81, bMo_between_88, bMo_between_97, bMo_between_104, bMo_between_113, bMo_between_117, bMo_between_118, bMo_between_130, bMo_between_137, bMo_between_146, bMo_between_153, bMo_between_162, bMo_between_166, bMo_between_167, bMo_between_169, bMo_between_175, mp τ q, ml τ q, mk τ q, tl_s, bMo_refuse_0, b2i_t ha, b2i_f hb, b2i_T, b2i_F, i10, not_true_eq_false, not_false_eq_true, and_self, and_true, true_and, and_false, false_and, or_true, true_or, or_false, false_or, or_self, if_true, if_false, ite_self, eq_self, Bool.false_eq_true, Bool.true_eq_false]
      exact k _ (by repeat' (first | exact qt_rf | assumption | refine qt_sI ?_ rfl | refine qt_sL ?_ rfl)) rfl rfl
  by_cases hab : a = b
  · refine pairI_q hI (-1) (nI 5) (fun Q k => ?_) (fun τ q Q k => ?_)
    · simp only [bPb_between_0, bPb_between_8, bPb_between_11, bPb_between_19, bPb_between_22, bPb_between_27, bPb_between_28, bPb_between_33, bPb_between_38, bPb_between_39, bPb_between_52, bPb_between_64, bPb_between_68, Tw_hasPerson T10 t1 b1, Tw_hasLoaf T10 t3 b3, Pr_has T10 t4 b4, tl_s, bPb_refuse_0, b2i_t ha, b2i_t hb, hab, b2i_T, b2i_F, i10, not_true_eq_false, not_false_eq_true, and_self, and_true, true_and, and_false, false_and, or_true, true_or, or_false, false_or, or_self, if_true, if_false, ite_self, eq_self, Bool.false_eq_true, Bool.true_eq_false]
      exact k _ (by repeat' (first | exact qt_rf | assumption | refine qt_sI ?_ rfl | refine qt_sL ?_ rfl)) rfl
    · simp only [bMo_between_0, bMo_between_15, bMo_between_18, bMo_between_23, bMo_between_26, bMo_between_31, bMo_between_32, bMo_between_37, bMo_between_42, bMo_between_43, bMo_between_59, bMo_between_65, bMo_between_68, bMo_between_71, bMo_between_81, bMo_between_88, bMo_between_97, bMo_between_104, bMo_between_113, bMo_between_117, bMo_between_118, bMo_between_130, bMo_between_137, bMo_between_146, bMo_between_153, bMo_between_162, bMo_between_166, bMo_between_167, bMo_between_169, bMo_between_175, mp τ q, ml τ q, mk τ q, tl_s, bMo_refuse_0, b2i_t ha, b2i_t hb, hab, b2i_T, b2i_F, i10, not_true_eq_false, not_false_eq_true, and_self, and_true, true_and, and_false, false_and, or_true, true_or, or_false, false_or, or_self, if_true, if_false, ite_self, eq_self, Bool.false_eq_true, Bool.true_eq_false]
      exact k _ (by repeat' (first | exact qt_rf | assumption | refine qt_sI ?_ rfl | refine qt_sL ?_ rfl)) rfl rfl
  refine pairI_q hI (hdF (σ.1 171) a b nk - hdF (σ.1 171) b a nk) 0 (fun Q k => ?_) (fun τ q Q k => ?_)
  · simp only [bPb_between_0, bPb_between_8, bPb_between_11, bPb_between_19, bPb_between_22, bPb_between_27, bPb_between_28, bPb_between_33, bPb_between_38, bPb_between_39, bPb_between_52, bPb_between_64, bPb_between_68, Tw_hasPerson T10 t1 b1, Tw_hasLoaf T10 t3 b3, Pr_has T10 t4 b4, tl_s, b2i_t ha, b2i_t hb, hab, b2i_T, b2i_F, i10, not_true_eq_false, not_false_eq_true, and_self, and_true, true_and, and_false, false_and, or_true, true_or, or_false, false_or, or_self, if_true, if_false, ite_self, eq_self, Bool.false_eq_true, Bool.true_eq_false]
    refine Eq.mpr (Pr_handed T10 hT) ?_
    simp only [tl_s, bPb_between_52]
    refine Eq.mpr (Pr_handed T10 hT) ?_
    simp only [tl_s, bPb_between_64, bPb_answer_0, bPb_between_68]
    exact k _ (by repeat' (first | exact qt_rf | assumption | refine qt_sI ?_ rfl | refine qt_sL ?_ rfl)) rfl
  · simp only [bMo_between_0, bMo_between_15, bMo_between_18, bMo_between_23, bMo_between_26, bMo_between_31, bMo_between_32, bMo_between_37, bMo_between_42, bMo_between_43, bMo_between_59, bMo_between_65, bMo_between_68, bMo_between_71, bMo_between_81, bMo_between_88, bMo_between_97, bMo_between_104, bMo_between_113, bMo_between_117, bMo_between_118, bMo_between_130, bMo_between_137, bMo_between_146, bMo_between_153, bMo_between_162, bMo_between_166, bMo_between_167, bMo_between_169, bMo_between_175, mp τ q, ml τ q, mk τ q, tl_s, b2i_t ha, b2i_t hb, hab, b2i_T, b2i_F, i10, not_true_eq_false, not_false_eq_true, and_self, and_true, true_and, and_false, false_and, or_true, true_or, or_false, false_or, or_self, if_true, if_false, ite_self, eq_self, Bool.false_eq_true, Bool.true_eq_false]
    refine Eq.mpr (Mo_betw_loop (σ := sI (sI τ 166 1 0) 166 0 0) (by rw [hq τ q]; exact c4) b4 hab nk 0 0 (by omega) (show (0 : Int32) = 0 - 0 by decide)) ?_
    rw [hq τ q]
    exact k _ (by repeat' (first | exact qt_rf | assumption | refine qt_sI ?_ rfl | refine qt_sL ?_ rfl)) rfl rfl
