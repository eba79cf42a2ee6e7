/-! live, odds -/
theorem lpF_45 {ex : lvS → Nat → Nat → lvS} (h : ∀ S s e, (S.2 45 = 0 ∨ S.2 45 = 1) → ((ex S s e).2 45 = 0 ∨ (ex S s e).2 45 = 1)) {s e : Nat} : ∀ (n : Nat) (S : lvS), (S.2 45 = 0 ∨ S.2 45 = 1) → ((lpF ex s e n S).2 45 = 0 ∨ (lpF ex s e n S).2 45 = 1)
  | 0, S, g => g
  | n + 1, S, g => by
    rw [lpF]
    split
    · exact lpF_45 h n _ (h S s e g)
    · exact g
theorem one_45 {S : lvS} : (one S).2 45 = S.2 45 := by
  show upd S.2 40 (S.2 40 + 1) 45 = S.2 45
  rw [upd_n (by omega)]
theorem exA_45 {np no : Nat} : ∀ (f : Nat) (S : lvS) (s e : Nat), (S.2 45 = 0 ∨ S.2 45 = 1) → ((exA np no f S s e).2 45 = 0 ∨ (exA np no f S s e).2 45 = 1)
  | 0, S, s, e, h => h
  | f + 1, S, s, e, h => by
    rw [exA]
    split
    · exact h
    · refine exA_45 f _ _ _ ?_
      have h1 : (one S).2 45 = 0 ∨ (one S).2 45 = 1 := by rw [one_45]; exact h
      unfold doF
      split
      · right; dsimp only; rw [upd_e]
      split
      · split
        · exact exA_45 f _ _ _ h1
        · exact h1
      split
      · exact lpF_45 (fun S s e g => exA_45 f S s e g) _ _ h1
      split
      · dsimp only
        rw [upd_n (by omega)]; exact h1
      · unfold plF
        dsimp only
        rw [upd_n (by omega), dsF_k (by omega) (by omega) (by omega) (by omega)]; exact h1
def lv0 (c : Nat → Int32) (seed : Int32) : lvS := (c, fun i => if i = 39 then seed else 0)
theorem Li_run {E : mEn} {D : Nat} {Q : mPost} {σ : mSt} {v t np no nl nk dy n : Nat} {c : Nat → Int32} {w : Nat → Int64} {seed : Int32} {u3 u4 : Value} (ht : isT t) (hv : isV v) (hT : TRel σ t c w np no nl nk dy) (hd : c 322 = 1) (hn : c 323 = nI n) (n30 : n ≤ 30)
    (hQ : ∀ υ, isT2 υ t (exA np no 31 (lv0 c seed) 0 n).1 w np no nl → LR v (exA np no 31 (lv0 c seed) 0 n).2 υ → qt (SLr t v) σ υ → GB σ υ t → MDo E np no 31 (lv0 c seed) 0 n → Q none υ) : WP E (D + 10) mLi_run 0 [.ref v, .ref t, .int seed, u3, u4] [] σ Q := by
  have tb := isT_lt ht
  have vb := isV_bd hv
  obtain ⟨d1, d2⟩ := hT.2.2.2.2.2.2.2.2.2.2.2.2.2
  obtain ⟨-, n', R, hn30, hR, en, e4, e3, hseg⟩ := d2.resolve_left (by rw [hd]; decide)
  obtain rfl : n' = n := (nI_eq (by omega) (by omega)).mp (en.symm.trans hn)
  rw [bLi_run_0 ht hv]
  obtain ⟨σ1, e1⟩ : ∃ σ1, σ1 = sI (sI (sI (sI (sI (sI (sI σ v 2 seed) v 3 0) v 4 0) v 5 0) v 6 0) v 7 0) v 8 0 := ⟨_, rfl⟩
  rw [← e1]
  have q1 : qt (fun o k => o == v && decide (2 ≤ k)) σ σ1 := by
    rw [e1]
    repeat' (first | exact qt_rf | refine qt_sI ?_ (by simp))
  have hT1 : TRel σ1 t c w np no nl nk dy := TRel_q q1 (fun j k hj _ _ => by simp only [Bool.and_eq_false_iff, beq_eq_false_iff_ne]; omega) hT
  have h12 : σ1.1 (t + 12) 3 = nI R := ((q1 _ _ (by simp only [Bool.and_eq_false_iff, beq_eq_false_iff_ne]; omega)).1).trans e3
  have q1r : qt (SLr t v) σ σ1 := qt_mono q1 (fun o k h => by
    simp only [Bool.and_eq_true, beq_iff_eq, decide_eq_true_eq] at h
    rw [h.1]
    exact SLd_r (v_Ld h.2))
  have hs1 : seg σ1 t c np no nl 31 0 n' 0 R := seg_q q1 (fun k => by simp only [Bool.and_eq_false_iff, beq_eq_false_iff_ne]; omega) _ _ _ _ _ hseg
  have hL : LR v (lv0 c seed).2 σ1 := by
    rw [e1]
    refine ⟨?_, ?_, ?_, ?_, ?_, ?_, ?_⟩
    · simp (disch := omega) only [sI_n, sI_e]; rfl
    · simp (disch := omega) only [sI_n, sI_e]; rfl
    · simp (disch := omega) only [sI_n, sI_e]; rfl
    · simp (disch := omega) only [sI_n, sI_e]; rfl
    · simp (disch := omega) only [sI_n, sI_e]; rfl
    · simp (disch := omega) only [sI_n, sI_e]; rfl
    · simp (disch := omega) only [sI_e]; rfl
  have C0 : CX σ1 v t np no nl w c (lv0 c seed) σ1 := ⟨⟨nk, dy, hT1⟩, hL, qt_rf, GB_e (fun _ => rfl), fun _ _ _ => rfl⟩
  have FIN : ∀ υ, CX σ1 v t np no nl w c (exA np no 31 (lv0 c seed) 0 n') υ → MDo E np no 31 (lv0 c seed) 0 n' → Q none υ := fun υ g m => hQ υ g.1 g.2.1 (qt_tr q1r g.2.2.1) (GB_tr (GB_e (fun x => (q1 _ _ (by simp only [Bool.and_eq_false_iff, beq_eq_false_iff_ne]; omega)).1)) g.2.2.2.1) m
  refine Li_seg (c0 := c) (w := w) (σ0 := σ1) ht hv hR h12 31 0 n' 0 R (lv0 c seed) σ1 0 0 hs1 hn30 (Nat.le_refl _) C0 rfl rfl (by omega) (by omega) (fun υ k' n'' g1 g2 g3 g4 g5 g6 g7 g8 => ?_) (fun υ g1 g2 g3 => FIN υ g1 g3)
  rw [Li_exit ht hv hR (((g1.2.2.1 _ _ (SLr_d ht hv (Or.inl rfl))).1).trans h12)]
  exact FIN υ g1 g8
theorem Mo_lives {E : mEn} {d : Nat} {Q : mPost} {σ : mSt} {np no n : Nat} {c : Nat → Int32} {seed : Int32} (hc : σ.1 171 = c) (hn : c 323 = nI n) (m : MDo E np no 31 (lv0 c seed) 0 n) (hQ : ∀ τ, qt SMv σ τ → τ.1 166 0 = σ.1 166 0 → τ.1 171 = (exA np no 31 (lv0 c seed) 0 n).1 → MR (exA np no 31 (lv0 c seed) 0 n).2 τ → Q none τ) : WP E (d + 73) mMo_lives 0 [.ref 166, .int seed] [] σ Q := by
  rw [bMo_lives_0, if_neg (by decide)]
  obtain ⟨σ1, e1⟩ : ∃ σ1, σ1 = sI (sI (sI (sI (sI (sI (sI (sI σ 166 39 seed) 166 40 0) 166 41 0) 166 42 0) 166 43 0) 166 44 0) 166 45 0) 166 38 0 := ⟨_, rfl⟩
  have hc1 : σ1.1 171 = c := by rw [e1]; exact hc
  have q1 : qt SMv σ σ1 := by
    rw [e1]
    repeat' (first | exact qt_rf | refine qt_sI ?_ (SMv_k (by omega) (by omega)))
  have k1 : MR (lv0 c seed).2 σ1 := fun i h1 h2 => by
    rw [e1]
    obtain rfl | rfl | rfl | rfl | rfl | rfl | rfl | rfl : i = 38 ∨ i = 39 ∨ i = 40 ∨ i = 41 ∨ i = 42 ∨ i = 43 ∨ i = 44 ∨ i = 45 := by omega
    all_goals
      simp (disch := omega) only [sI_n, sI_e]
      rfl
  rw [← e1, hc1, hn, bMo_doAll_0]
  refine m d σ1 _ _ hc1 k1 (fun τ q g0 g1 g2 => ?_)
  rw [tl_n, bMo_lives_53]
  exact hQ τ (qt_tr q1 q) (g0.trans (by rw [e1]; rfl)) g1 g2
def SLv (o k : Nat) : Bool := SQ o k || ((o == 0 && k == 15) || (decide (10 ≤ o) && decide (o ≤ 34)) || (decide (73 ≤ o) && decide (o ≤ 81)) || (o == 166 && decide (37 ≤ k) && decide (k ≤ 45)) || (o == 171 && decide (k < 322)) || o == 183)
theorem SLv_T {t j k : Nat} (ht : 91 ≤ t ∧ t ≤ 141) (hj : j < 25) (h1 : j ≠ 10) (h2 : j ≠ 11) : SLv (t + j) k = false := by
  simp only [SLv, SQ, Bool.or_eq_false_iff, Bool.and_eq_false_iff, beq_eq_false_iff_ne, decide_eq_false_iff_not, ne_eq]
  omega
theorem Inv_Lv {σ τ : mSt} (h : Inv σ) (q : qt SLv σ τ) (hs : τ.1 0 10 = τ.1 166 0) (hgs : τ.1 177 0 = 0 ∧ τ.1 178 0 = 0 ∧ RBo τ) (hlv : RLv τ) (htw : isTown τ 10 (τ.1 171) (τ.2 173)) : Inv τ := by
  have e1 : ∀ o k, SLv o k = false → τ.1 o k = σ.1 o k := fun o k g => (q o k g).1
  have e2 : ∀ o k, SLv o k = false → τ.2 o k = σ.2 o k := fun o k g => (q o k g).2
  have f1 : ∀ o, (∀ k, SLv o k = false) → τ.1 o = σ.1 o := fun o g => funext fun k => e1 o k (g k)
  have f2 : ∀ o, (∀ k, SLv o k = false) → τ.2 o = σ.2 o := fun o g => funext fun k => e2 o k (g k)
  obtain ⟨h1, h2, h3, h4, h5, h6, h7, h8, h9, h10, h11⟩ := h
  refine ⟨hs, ?_, ?_, ?_, ?_, ?_, ?_, ?_, ?_, ?_, ?_⟩
  · rw [e2 0 11 rfl, e2 0 12 rfl, e2 166 2 rfl, e2 166 3 rfl]; exact h2
  · rw [e1 0 13 rfl, e1 0 14 rfl, e1 166 10 rfl, e1 166 11 rfl]; exact h3
  · rw [f1 7 (fun _ => rfl), f1 170 (fun _ => rfl), e1 6 2 rfl, e1 166 8 rfl]; exact h4
  · exact hgs
  · unfold RTr; rw [f2 2 (fun _ => rfl), f2 169 (fun _ => rfl), f1 3 (fun _ => rfl), f1 167 (fun _ => rfl), f1 4 (fun _ => rfl), f1 168 (fun _ => rfl)]; exact h6
  · obtain ⟨k, b1, b2, b3, b4⟩ := h7
    refine ⟨k, b1, by rw [e1 0 9 rfl]; exact b2, by rw [e1 166 23 rfl]; exact b3, fun i hi => ?_⟩
    have ec : (fun j => τ.1 171 (600 * (i + 1) + j)) = fun j => σ.1 171 (600 * (i + 1) + j) := funext fun j => e1 171 _ (by simp only [SLv, SQ, Bool.or_eq_false_iff, Bool.and_eq_false_iff, beq_eq_false_iff_ne, decide_eq_false_iff_not, ne_eq]; omega)
    have ew : (fun j => τ.2 173 (20 * (i + 1) + j)) = fun j => σ.2 173 (20 * (i + 1) + j) := funext fun j => e2 173 _ (by simp only [SLv, SQ, Bool.or_eq_false_iff, Bool.and_eq_false_iff, beq_eq_false_iff_ne, decide_eq_false_iff_not, ne_eq]; omega)
    rw [ec, ew]
    obtain ⟨np, no, nl, nk, dy, g⟩ := b4 i hi
    exact ⟨np, no, nl, nk, dy, TRel_q q (fun j k' hj x1 x2 => SLv_T (by omega) hj x1 x2) g⟩
  · exact hlv
  · unfold RRg; rw [e1 68 4 rfl, e1 166 33 rfl, f1 72 (fun _ => rfl), f1 180 (fun _ => rfl)]; exact h9
  · unfold RKw; rw [f2 8 (fun _ => rfl)]; exact h10
  · exact htw
theorem V73 : isV 73 := Or.inl rfl
theorem V82 : isV 82 := Or.inr rfl
theorem SLr_Lv {o k : Nat} (h : SLr 10 73 o k = true) : SLv o k = true := by
  simp only [SLr, SLd, STn, SLv, SQ, Bool.or_eq_true, Bool.and_eq_true, decide_eq_true_eq, beq_iff_eq, bne_iff_ne, ne_eq] at h ⊢
  omega
theorem SMv_Lv {o k : Nat} (h : SMv o k = true) : SLv o k = true := by
  simp only [SMv, SMo, S171, SLv, Bool.or_eq_true, Bool.and_eq_true, decide_eq_true_eq, beq_iff_eq] at h ⊢
  rcases h with ⟨-, h | h⟩ | h
  · exact Or.inl h
  · exact Or.inr (Or.inl (Or.inr h))
  · refine Or.inr (Or.inl (Or.inl (Or.inr ⟨⟨h.1.1, ?_⟩, h.2⟩)))
    omega
theorem P_live {E : mEn} {d : Nat} {σ : mSt} {a : Int32} (hI : Inv σ) : pairI E (d + 80) mPb_live mMo_live [.ref 0, .int a] [.ref 166, .int a] σ := by
  obtain ⟨np, no, nl, nk, dy, hT⟩ := Inv_town hI
  obtain ⟨⟨b1, b2, b3, b4, b5⟩, ⟨t1, c1⟩, ⟨t2, c2⟩, ⟨t3, c3⟩, ⟨t4, c4⟩, ⟨t5, c5⟩, c6, gP, gO, gL, gB, gK, -⟩ := id hT
  have hq : ∀ τ : mSt, qt SQ σ τ → (sI (sI τ 166 1 0) 166 0 0).1 171 = σ.1 171 := fun τ q => funext fun k => (q 171 k rfl).1
  have mp := @mpq E σ np c1 b1
  have ml := @mlq E σ nl c3 b3
  have mk := @mkq E σ nk c4 b4
  rcases sw_cs a 0 9999 with ⟨x, -, hx, rfl⟩ | hne
  rotate_left
  · refine pairI_q hI (-1) (nI 5) (fun Q k => ?_) (fun τ q Q k => ?_)
    · rw [bPb_live_0, bPb_live_4, rngC (l' := 0) (h' := nI 9999) (lo := 0) (hi := 9999) rfl rfl (by omega) (by omega) hne, bPb_live_11, bPb_refuse_0, tl_s, bPb_live_16]
      exact k _ (by repeat' (first | exact qt_rf | assumption | refine qt_sI ?_ rfl | refine qt_sL ?_ rfl)) rfl
    · rw [bMo_live_0, Mo_isIn, tl_s, bMo_live_19, b2i_f (isIn_f (l6 := 0) (h6 := 9999) (lo := 0) (hi := 9999) rfl rfl (by omega) (by omega) hne), ite_nn rfl, bMo_live_22, bMo_refuse_0, tl_s, bMo_live_27]
      exact k _ (by repeat' (first | exact qt_rf | assumption | refine qt_sI ?_ rfl | refine qt_sL ?_ rfl)) rfl rfl
  obtain ⟨d1, d2⟩ : DRel σ 10 (σ.1 171) np no nl := hT.2.2.2.2.2.2.2.2.2.2.2.2.2
  have d1' : σ.1 22 5 = σ.1 171 322 := d1
  have X0 : ∀ Q : mPost, WP E (d + 80) mPb_live 0 [.ref 0, .int (nI x)] [] σ Q = WP E (d + 80) mPb_live 17 [.ref 0, .int (nI x)] [] σ Q := fun Q => by
    rw [bPb_live_0, bPb_live_4, rngD (l' := 0) (h' := nI 9999) (lo := 0) (hi := 9999) rfl rfl (by omega) (by omega) hx]
  have Y0 : ∀ (τ : mSt) (Q : mPost), WP E (d + 80) mMo_live 0 [.ref 166, .int (nI x)] [] τ Q = WP E (d + 80) mMo_live 28 [.ref 166, .int (nI x)] [] (sI (sI τ 166 1 0) 166 0 0) Q := fun τ Q => by
    rw [bMo_live_0, Mo_isIn, tl_s, bMo_live_19, b2i_t (isIn_t (l6 := 0) (h6 := 9999) (lo := 0) (hi := 9999) rfl rfl (by omega) (by omega) hx), if_pos i10]
  rcases d2 with d2 | ⟨d2, n, R, hn30, hR, en, -, -, -⟩
  · refine pairI_q hI (-1) (nI 8) (fun Q k => ?_) (fun τ q Q k => ?_)
    · rw [X0, bPb_live_17, d1', d2, ite_nn rfl, bPb_live_30, bPb_refuse_0, tl_s, bPb_live_36]
      exact k _ (by repeat' (first | exact qt_rf | assumption | refine qt_sI ?_ rfl | refine qt_sL ?_ rfl)) rfl
    · rw [Y0, bMo_live_28, if_neg (by decide), hq τ q, d2, ite_nn rfl, bMo_live_39, bMo_refuse_0, tl_s, bMo_live_45]
      exact k _ (by repeat' (first | exact qt_rf | assumption | refine qt_sI ?_ rfl | refine qt_sL ?_ rfl)) rfl rfl
  unfold pairI
  rw [X0, bPb_live_17, d1', d2, if_pos i10, bPb_live_37]
  refine Li_run T10 V73 hT d2 en hn30 (fun υ g1 g2 q1 gb md => ?_)
  obtain ⟨l2, l3, l4, l5, l6, l7, l8⟩ := g2
  have l3' : (sI υ 0 15 1).1 73 3 = (exA np no 31 (lv0 (σ.1 171) (nI x)) 0 n).2 40 := l3
  rw [tl_n, bPb_live_49, l3', bPb_answer_0, tl_s, bPb_live_65]
  refine ⟨_, rfl, ?_⟩
  have ge : ∀ o, 166 ≤ o → (sI (sI υ 0 15 1) 0 10 0).1 o = σ.1 o ∧ (sI (sI υ 0 15 1) 0 10 0).2 o = σ.2 o := fun o ho => ⟨funext fun k => by
    rw [sI_n (by omega), sI_n (by omega)]
    exact (q1 o k (by simp only [SLr, SLd, STn, Bool.or_eq_false_iff, Bool.and_eq_false_iff, decide_eq_false_iff_not, beq_eq_false_iff_ne]; omega)).1, funext fun k => (q1 o k (by simp only [SLr, SLd, STn, Bool.or_eq_false_iff, Bool.and_eq_false_iff, decide_eq_false_iff_not, beq_eq_false_iff_ne]; omega)).2⟩
  have hc := mo0 ge
  rw [Y0, bMo_live_28, if_neg (by decide), hc, d2, if_pos i10, bMo_live_46]
  refine Mo_lives (d := d + 6) hc en md (fun φ q2 f0 f1 f2 => ?_)
  have k45 := exA_45 (np := np) (no := no) 31 (lv0 (σ.1 171) (nI x)) 0 n (Or.inl rfl)
  generalize exA np no 31 (lv0 (σ.1 171) (nI x)) 0 n = S at g1 l2 l3 l4 l5 l6 l7 l8 l3' f1 f2 k45 ⊢
  rw [tl_n, bMo_live_51, if_neg (by decide), if_neg (by decide), if_neg (by decide), bMo_live_81, if_neg (by decide), if_neg (by decide)]
  simp (disch := omega) only [sI_n]
  rw [f2 40 (by omega) (by omega), f2 41 (by omega) (by omega), f2 42 (by omega) (by omega), f2 43 (by omega) (by omega), f2 44 (by omega) (by omega), f2 45 (by omega) (by omega)]
  refine ⟨rfl, ?_⟩
  have Z : qt SLv σ (sI (sI (sI (sI (sI (sI φ 183 0 (S.2 41)) 183 1 (S.2 42)) 183 2 (S.2 43)) 183 3 (S.2 44)) 183 4 (S.2 45)) 166 37 1) := by
    refine qt_sI (qt_sI (qt_sI (qt_sI (qt_sI (qt_sI (qt_tr (τ := sI (sI (sI (sI υ 0 15 1) 0 10 0) 166 1 0) 166 0 0) (qt_sI (qt_sI (qt_sI (qt_sI (qt_mono q1 (fun o k => SLr_Lv)) rfl) rfl) rfl) rfl) (qt_mono q2 (fun o k => SMv_Lv))) rfl) rfl) rfl) rfl) rfl) rfl
  have lo : ∀ o k, o < 166 → (sI (sI (sI (sI (sI (sI φ 183 0 (S.2 41)) 183 1 (S.2 42)) 183 2 (S.2 43)) 183 3 (S.2 44)) 183 4 (S.2 45)) 166 37 1).1 o k = (sI (sI υ 0 15 1) 0 10 0).1 o k := fun o k ho => by
    simp (disch := omega) only [sI_n]
    rw [(q2 o k (by simp only [SMv, SMo, Bool.or_eq_false_iff, Bool.and_eq_false_iff, decide_eq_false_iff_not, beq_eq_false_iff_ne]; omega)).1]
    simp (disch := omega) only [sI_n]
  have hg := hI.2.2.2.2.1
  obtain ⟨nk', dy', g1⟩ := g1
  refine Inv_Lv hI Z ?_ ⟨?_, ?_, ?_⟩ ⟨?_, Or.inr ⟨?_, ?_, ?_, ?_, ?_, ?_, ?_⟩⟩ ⟨np, no, nl, nk', dy', ?_⟩
  · rw [lo 0 10 (by omega), sI_e]
    simp (disch := omega) only [sI_n]
    rw [f0, sI_e]
  · rw [(Z 177 0 rfl).1]; exact hg.1
  · rw [(Z 178 0 rfl).1]; exact hg.2.1
  · intro t ht k
    have tl := isT_lt ht
    rw [lo _ _ (by omega), sI_n (by omega), sI_n (by omega)]
    by_cases e : t = 10
    · subst e
      rcases gb k with e | e
      · rw [e]; exact hg.2.2 10 T10 k
      · exact e
    · rw [(q1 _ _ (by simp only [SLr, SLd, STn, Bool.or_eq_false_iff, Bool.and_eq_false_iff, decide_eq_false_iff_not, beq_eq_false_iff_ne]; omega)).1]
      exact hg.2.2 t ht k
  · rw [lo 0 15 (by omega), sI_n (by omega), sI_e, sI_e]
  · rw [sI_e]
  · rw [lo 73 4 (by omega), sI_n (by omega), sI_n (by omega)]
    simp (disch := omega) only [sI_n, sI_e]; exact l4
  · rw [lo 73 5 (by omega), sI_n (by omega), sI_n (by omega)]
    simp (disch := omega) only [sI_n, sI_e]; exact l5
  · rw [lo 73 6 (by omega), sI_n (by omega), sI_n (by omega)]
    simp (disch := omega) only [sI_n, sI_e]; exact l6
  · rw [lo 73 7 (by omega), sI_n (by omega), sI_n (by omega)]
    simp (disch := omega) only [sI_n, sI_e]; exact l7
  · rw [lo 73 8 (by omega), sI_n (by omega), sI_n (by omega)]
    simp (disch := omega) only [sI_n, sI_e]; exact l8
  · simp (disch := omega) only [sI_n, sI_e]; exact k45
  · have e171 : (sI (sI (sI (sI (sI (sI φ 183 0 (S.2 41)) 183 1 (S.2 42)) 183 2 (S.2 43)) 183 3 (S.2 44)) 183 4 (S.2 45)) 166 37 1).1 171 = S.1 := f1
    have e173 : (sI (sI (sI (sI (sI (sI φ 183 0 (S.2 41)) 183 1 (S.2 42)) 183 2 (S.2 43)) 183 3 (S.2 44)) 183 4 (S.2 45)) 166 37 1).2 173 = σ.2 173 := funext fun k => (Z 173 k rfl).2
    rw [e171, e173]
    refine TRel_q (S := fun o _ => ! (decide (10 ≤ o) && decide (o < 35))) (σ := υ) (fun o k h => ?_) (fun j k hj _ _ => by simp only [Bool.not_eq_false', Bool.and_eq_true, decide_eq_true_eq]; omega) g1
    simp only [Bool.not_eq_false', Bool.and_eq_true, decide_eq_true_eq] at h
    refine ⟨by rw [lo o k (by omega), sI_n (by omega), sI_n (by omega)], ?_⟩
    show φ.2 o k = υ.2 o k
    exact (q2 o k (by simp only [SMv, SMo, Bool.or_eq_false_iff, Bool.and_eq_false_iff, decide_eq_false_iff_not, beq_eq_false_iff_ne]; omega)).2
