/-! odds -/
theorem sL_e {σ : mSt} {o k : Nat} {v : Int64} : (sL σ o k v).2 o k = v := if_pos ⟨rfl, rfl⟩
theorem sL_n {σ : mSt} {o k a b : Nat} {v : Int64} (h : a ≠ o ∨ b ≠ k) : (sL σ o k v).2 a b = σ.2 a b := if_neg (fun g => h.elim (fun x => x g.1) (fun x => x g.2))
def odN (np no n p : Nat) (c : Nat → Int32) (sl : Int32) (seed : Nat) : Nat → Nat
  | 0 => 0
  | i + 1 => if (exA np no 31 (lv0 c (nI (seed + i))) 0 n).1 (14 + p) < sl then odN np no n p c sl seed i else odN np no n p c sl seed i + 1
theorem odN_le {np no n p : Nat} {c : Nat → Int32} {sl : Int32} {seed : Nat} : ∀ i, odN np no n p c sl seed i ≤ i
  | 0 => Nat.le_refl _
  | i + 1 => by
    have := odN_le (np := np) (no := no) (n := n) (p := p) (c := c) (sl := sl) (seed := seed) i
    rw [odN]
    split <;> omega
theorem T35 : isT 35 := Or.inr (Or.inl rfl)
def SOc (o k : Nat) : Bool := (decide (35 ≤ o) && decide (o ≤ 59)) || (decide (82 ≤ o) && decide (o ≤ 90))
theorem SOc_f {o k : Nat} (h : o < 35 ∨ (59 < o ∧ o < 82) ∨ 90 < o) : SOc o k = false := by
  simp only [SOc, Bool.or_eq_false_iff, Bool.and_eq_false_iff, decide_eq_false_iff_not]; omega
theorem Pb_od_loop {E : mEn} {d : Nat} {Q : mPost} {σ : mSt} {np no nl nk dy n p seed m : Nat} {c : Nat → Int32} {w : Nat → Int64} {sl : Int32} (hT : TRel σ 10 c w np no nl nk dy) (hp : p < np) (h1 : c 322 = 1) (hn : c 323 = nI n) (n30 : n ≤ 30) (hm : m ≤ 20) (hs : seed ≤ 9999) : ∀ (j i : Nat) (τ : mSt), i + j = m → qt SOc σ τ → RBo τ → (∀ x, x < i → MDo E np no 31 (lv0 c (nI (seed + x))) 0 n) →
    (∀ υ, qt SOc σ υ → RBo υ → (∀ x, x < m → MDo E np no 31 (lv0 c (nI (seed + x))) 0 n) → WP E (d + 11) mPb_odds 151 [.ref 0, .int (nI p), .int sl, .int (nI seed), .int (nI m), .int (nI (odN np no n p c sl seed m)), .int (nI m)] [] υ Q) → WP E (d + 11) mPb_odds 96 [.ref 0, .int (nI p), .int sl, .int (nI seed), .int (nI m), .int (nI (odN np no n p c sl seed i)), .int (nI i)] [] τ Q
  | 0, i, τ, e, q, hB, hM, hQ => by
    have e' : i = m := by omega
    subst e'
    rw [bPb_odds_96, if_pos (Int32.le_refl _)]
    exact hQ τ q hB hM
  | j + 1, i, τ, e, q, hB, hM, hQ => by
    have b1 := hT.1.1
    have hT' : TRel τ 10 c w np no nl nk dy := TRel_q q (fun j k hj _ _ => SOc_f (by omega)) hT
    rw [bPb_odds_96, if_neg (nI_ge (by omega) (by omega)), bPb_odds_103]
    refine Pb_carry T35 T10 (by omega) hT' hB (fun υ q1 g1 g2 => ?_)
    rw [tl_n, bPb_odds_114, nI_add]
    refine Li_run T35 V82 g2 h1 hn n30 (fun φ x1 x2 q2 x3 md => ?_)
    obtain ⟨nk', dy', x1⟩ := x1
    have ow' : φ.1 51 p = (exA np no 31 (lv0 c (nI (seed + i))) 0 n).1 (14 + p) := (x1.2.2.2.2.2.2.2.1 p hp).2.1
    have q3 : qt SOc σ φ := qt_tr q (qt_tr (qt_mono q1 (fun o k h => by
      simp only [STc, SOc, Bool.or_eq_true, Bool.and_eq_true, decide_eq_true_eq] at h ⊢; omega)) (qt_mono q2 (fun o k h => by
      simp only [SLr, SLd, STn, SOc, Bool.or_eq_true, Bool.and_eq_true, decide_eq_true_eq, beq_iff_eq] at h ⊢; omega)))
    have hB3 : RBo φ := fun t ht k => by
      have tl := isT_lt ht
      by_cases e35 : t = 35
      · subst e35
        rcases x3 k with g | g
        · rw [g]; exact g1 k
        · exact g
      · rw [(q2 _ _ (by simp only [SLr, SLd, STn, Bool.or_eq_false_iff, Bool.and_eq_false_iff, decide_eq_false_iff_not, beq_eq_false_iff_ne]; omega)).1, (q1 _ _ (by simp only [STc, Bool.and_eq_false_iff, decide_eq_false_iff_not]; omega)).1]
        exact hB t ht k
    have hM' : ∀ x, x < i + 1 → MDo E np no 31 (lv0 c (nI (seed + x))) 0 n := fun x hx => by
      by_cases y : x = i
      · subst y; exact md
      · exact hM x (by omega)
    rw [tl_n, bPb_odds_129, mOut_f (by omega) (by omega), nI_clamp (by omega), ow', if_neg (by decide)]
    have IH := Pb_od_loop (E := E) (d := d) (Q := Q) (sl := sl) hT hp h1 hn n30 hm hs j (i + 1) φ (by omega) q3 hB3 hM' hQ
    rw [odN] at IH
    by_cases z : (exA np no 31 (lv0 c (nI (seed + i))) 0 n).1 (14 + p) < sl
    · rw [if_pos z] at IH
      rw [if_pos z, bPb_odds_145, nI_1]
      exact IH
    · rw [if_neg z] at IH
      rw [if_neg z, bPb_odds_142, bPb_odds_145, nI_1, nI_1]
      exact IH
theorem Mo_od_keep {E : mEn} {d : Nat} {Q : mPost} {c : Nat → Int32} {a1 a2 a3 a4 : Int32} {u6 u7 : Value} : ∀ (j k : Nat) (τ : mSt), k + j = 322 → τ.1 171 = c → (∀ x, x < k → τ.1 172 x = c x) → (∀ υ a5, qt (fun o _ => o == 172) τ υ → (∀ x, x < 322 → υ.1 172 x = c x) → WP E d mMo_odds 120 [.ref 166, .int a1, .int a2, .int a3, .int a4, .int a5, u6, u7] [] υ Q) → WP E d mMo_odds 92 [.ref 166, .int a1, .int a2, .int a3, .int a4, .int (nI k), u6, u7] [] τ Q
  | 0, k, τ, e, hc, h, hQ => by
    have e' : k = 322 := by omega
    subst e'
    rw [bMo_odds_92, if_pos (Int32.le_refl _)]
    exact hQ τ _ qt_rf h
  | j + 1, k, τ, e, hc, h, hQ => by
    rw [bMo_odds_92, if_neg (nI_ge (by omega) (by omega)), bMo_odds_100, mOut_f (by omega) (by omega), mOut_f (by omega) (by omega), nI_clamp (by omega), hc, if_neg (by decide), if_neg (by decide), nI_1]
    refine Mo_od_keep j (k + 1) _ (by omega) (by rw [sI_1 (by omega)]; exact hc) (fun x hx => ?_) (fun υ a5 q => hQ υ a5 (qt_tr (qt_sI qt_rf rfl) q))
    by_cases y : x = k
    · subst y; rw [sI_e]
    · rw [sI_n (Or.inr y)]; exact h x (by omega)
theorem Mo_od_back {E : mEn} {d : Nat} {Q : mPost} {c : Nat → Int32} {a1 a2 a3 a4 a5 a6 : Int32} : ∀ (j k : Nat) (τ : mSt), k + j = 322 → (∀ x, x < k ∨ 322 ≤ x → τ.1 171 x = c x) → (∀ x, x < 322 → τ.1 172 x = c x) → (∀ υ a7, qt (fun o k => o == 171 && decide (k < 322)) τ υ → υ.1 171 = c → WP E d mMo_odds 195 [.ref 166, .int a1, .int a2, .int a3, .int a4, .int a5, .int a6, .int a7] [] υ Q) → WP E d mMo_odds 167 [.ref 166, .int a1, .int a2, .int a3, .int a4, .int a5, .int a6, .int (nI k)] [] τ Q
  | 0, k, τ, e, hc, h, hQ => by
    have e' : k = 322 := by omega
    subst e'
    rw [bMo_odds_167, if_pos (Int32.le_refl _)]
    exact hQ τ _ qt_rf (funext fun x => hc x (by omega))
  | j + 1, k, τ, e, hc, h, hQ => by
    rw [bMo_odds_167, if_neg (nI_ge (by omega) (by omega)), bMo_odds_175, mOut_f (by omega) (by omega), mOut_f (by omega) (by omega), nI_clamp (by omega), h k (by omega), if_neg (by decide), if_neg (by decide), nI_1]
    refine Mo_od_back j (k + 1) _ (by omega) (fun x hx => ?_) (fun x hx => by rw [sI_n (by omega)]; exact h x hx) (fun υ a7 q => hQ υ a7 (qt_tr (qt_sI qt_rf (by simp; omega)) q))
    by_cases y : x = k
    · subst y; rw [sI_e]
    · rw [sI_n (Or.inr y)]; exact hc x (by omega)
theorem SMv_171 {k : Nat} (h : 322 ≤ k) : SMv 171 k = false := by
  simp only [SMv, SMo, SQ, S171, Bool.or_eq_false_iff, Bool.and_eq_false_iff, beq_eq_false_iff_ne, decide_eq_false_iff_not, ne_eq]
  omega
theorem Mo_od_loop {E : mEn} {d : Nat} {Q : mPost} {σ : mSt} {np no n p seed m : Nat} {c : Nat → Int32} {sl : Int32} (hp : p < 8) (hn : c 323 = nI n) (hm : m ≤ 20) (hs : seed ≤ 9999) (hM : ∀ x, x < m → MDo E np no 31 (lv0 c (nI (seed + x))) 0 n) : ∀ (j i : Nat) (τ : mSt) (u7 : Value), i + j = m → qt SMv σ τ → τ.1 166 0 = σ.1 166 0 → τ.1 171 = c → (∀ x, x < 322 → τ.1 172 x = c x) →
    (∀ υ u7, qt SMv σ υ → υ.1 166 0 = σ.1 166 0 → υ.1 171 = c → WP E (d + 74) mMo_odds 201 [.ref 166, .int (nI p), .int sl, .int (nI seed), .int (nI m), .int (nI (odN np no n p c sl seed m)), .int (nI m), u7] [] υ Q) → WP E (d + 74) mMo_odds 126 [.ref 166, .int (nI p), .int sl, .int (nI seed), .int (nI m), .int (nI (odN np no n p c sl seed i)), .int (nI i), u7] [] τ Q
  | 0, i, τ, u7, e, q, h0, hc, hk, hQ => by
    have e' : i = m := by omega
    subst e'
    rw [bMo_odds_126, if_pos (Int32.le_refl _)]
    exact hQ τ u7 q h0 hc
  | j + 1, i, τ, u7, e, q, h0, hc, hk, hQ => by
    rw [bMo_odds_126, if_neg (nI_ge (by omega) (by omega)), bMo_odds_133, nI_add]
    refine Mo_lives hc hn (hM i (by omega)) (fun φ q1 f0 f1 _ => ?_)
    have hc2 : ∀ x, 322 ≤ x → φ.1 171 x = c x := fun x hx => by rw [(q1 171 x (SMv_171 hx)).1, hc]
    have hk2 : ∀ x, x < 322 → φ.1 172 x = c x := fun x hx => by rw [(q1 172 x rfl).1]; exact hk x hx
    rw [tl_n, bMo_odds_141, nI_add, mOut_f (by omega) (by omega), nI_clamp (by omega), f1, if_neg (by decide)]
    have NX : ∀ y : Int32, nI (odN np no n p c sl seed i) + y = nI (odN np no n p c sl seed (i + 1)) → WP E (d + 74) mMo_odds 161 [.ref 166, .int (nI p), .int sl, .int (nI seed), .int (nI m), .int (nI (odN np no n p c sl seed i)), .int (nI i), u7] [.int y, .int (nI (odN np no n p c sl seed i))] φ Q := fun y ey => by
      rw [bMo_odds_161, ey]
      refine Mo_od_back (c := c) 322 0 φ (by omega) (fun x hx => hc2 x (by omega)) hk2 (fun ψ a7 q2 g => ?_)
      rw [bMo_odds_195, nI_1]
      exact Mo_od_loop hp hn hm hs hM j (i + 1) ψ _ (by omega) (qt_tr q (qt_tr q1 (qt_mono q2 (fun o k h => SMo_v (S171_Mo (by simpa [S171] using h)))))) (((q2 166 0 rfl).1.trans f0).trans h0) g (fun x hx => by rw [(q2 172 x rfl).1]; exact hk2 x hx) hQ
    by_cases z : (exA np no 31 (lv0 c (nI (seed + i))) 0 n).1 (14 + p) < sl
    · rw [if_pos z, bMo_odds_160]
      exact NX 0 (by rw [odN, if_pos z, Int32.add_zero])
    · rw [if_neg z, bMo_odds_156]
      exact NX 1 (by rw [odN, if_neg z, nI_1])
def SOd (o k : Nat) : Bool := SQ o k || ((o == 0 && (k == 11 || k == 12)) || (decide (35 ≤ o) && decide (o ≤ 59)) || (decide (82 ≤ o) && decide (o ≤ 90)) || (o == 166 && (k == 2 || k == 3 || (decide (38 ≤ k) && decide (k ≤ 45)))) || o == 172 || (o == 171 && decide (k < 322)))
theorem SOd_T {t j k : Nat} (ht : 91 ≤ t ∧ t ≤ 141) (hj : j < 25) (h1 : j ≠ 10) (h2 : j ≠ 11) : SOd (t + j) k = false := by
  simp only [SOd, SQ, Bool.or_eq_false_iff, Bool.and_eq_false_iff, beq_eq_false_iff_ne, decide_eq_false_iff_not, ne_eq]
  omega
theorem Inv_Od {σ τ : mSt} (h : Inv σ) (q : qt SOd σ τ) (hs : τ.1 0 10 = τ.1 166 0) (hfr : τ.2 0 11 = τ.2 166 2 ∧ τ.2 0 12 = τ.2 166 3) (hgs : τ.1 177 0 = 0 ∧ τ.1 178 0 = 0 ∧ RBo τ) (htw : isTown τ 10 (τ.1 171) (τ.2 173)) : Inv τ := by
  have e1 : ∀ o k, SOd o k = false → τ.1 o k = σ.1 o k := fun o k g => (q o k g).1
  have e2 : ∀ o k, SOd o k = false → τ.2 o k = σ.2 o k := fun o k g => (q o k g).2
  have f1 : ∀ o, (∀ k, SOd o k = false) → τ.1 o = σ.1 o := fun o g => funext fun k => e1 o k (g k)
  have f2 : ∀ o, (∀ k, SOd o k = false) → τ.2 o = σ.2 o := fun o g => funext fun k => e2 o k (g k)
  obtain ⟨h1, h2, h3, h4, h5, h6, h7, h8, h9, h10, h11⟩ := h
  refine ⟨hs, ?_, ?_, ?_, ?_, ?_, ?_, ?_, ?_, ?_, ?_⟩
  · exact hfr
  · rw [e1 0 13 rfl, e1 0 14 rfl, e1 166 10 rfl, e1 166 11 rfl]; exact h3
  · rw [f1 7 (fun _ => rfl), f1 170 (fun _ => rfl), e1 6 2 rfl, e1 166 8 rfl]; exact h4
  · exact hgs
  · unfold RTr; rw [f2 2 (fun _ => rfl), f2 169 (fun _ => rfl), f1 3 (fun _ => rfl), f1 167 (fun _ => rfl), f1 4 (fun _ => rfl), f1 168 (fun _ => rfl)]; exact h6
  · obtain ⟨k, b1, b2, b3, b4⟩ := h7
    refine ⟨k, b1, by rw [e1 0 9 rfl]; exact b2, by rw [e1 166 23 rfl]; exact b3, fun i hi => ?_⟩
    have ec : (fun j => τ.1 171 (600 * (i + 1) + j)) = fun j => σ.1 171 (600 * (i + 1) + j) := funext fun j => e1 171 _ (by simp only [SOd, SQ, Bool.or_eq_false_iff, Bool.and_eq_false_iff, beq_eq_false_iff_ne, decide_eq_false_iff_not, ne_eq]; omega)
    have ew : (fun j => τ.2 173 (20 * (i + 1) + j)) = fun j => σ.2 173 (20 * (i + 1) + j) := funext fun j => e2 173 _ (by simp only [SOd, SQ, Bool.or_eq_false_iff, Bool.and_eq_false_iff, beq_eq_false_iff_ne, decide_eq_false_iff_not, ne_eq]; omega)
    rw [ec, ew]
    obtain ⟨np, no, nl, nk, dy, g⟩ := b4 i hi
    exact ⟨np, no, nl, nk, dy, TRel_q q (fun j k' hj x1 x2 => SOd_T (by omega) hj x1 x2) g⟩
  · unfold RLv; rw [e1 0 15 rfl, e1 166 37 rfl, e1 73 4 rfl, e1 73 5 rfl, e1 73 6 rfl, e1 73 7 rfl, e1 73 8 rfl, f1 183 (fun _ => rfl)]; exact h8
  · unfold RRg; rw [e1 68 4 rfl, e1 166 33 rfl, f1 72 (fun _ => rfl), f1 180 (fun _ => rfl)]; exact h9
  · unfold RKw; rw [f2 8 (fun _ => rfl)]; exact h10
  · exact htw
theorem P_odds {E : mEn} {d : Nat} {σ : mSt} {a b s m : Int32} {u1 u2 u3 u4 u5 : Value} (hI : Inv σ) : pairI E (d + 80) mPb_odds mMo_odds [.ref 0, .int a, .int b, .int s, .int m, u1, u2] [.ref 166, .int a, .int b, .int s, .int m, u3, u4, u5] σ := by
  obtain ⟨np, no, nl, nk, dy, hT⟩ := Inv_town hI
  obtain ⟨⟨b1, b2, b3, b4, b5⟩, ⟨t1, c1⟩, ⟨t2, c2⟩, ⟨t3, c3⟩, ⟨t4, c4⟩, ⟨t5, c5⟩, c6, gP, gO, gL, gB, gK, -⟩ := id hT
  have hq : ∀ τ : mSt, qt SQ σ τ → (sI (sI τ 166 1 0) 166 0 0).1 171 = σ.1 171 := fun τ q => funext fun k => (q 171 k rfl).1
  have mp := @mpq E σ np c1 b1
  have ml := @mlq E σ nl c3 b3
  have mk := @mkq E σ nk c4 b4
  by_cases ha : mOut a np = false
  rotate_left
  · refine pairI_q hI 0 (nI 2) (fun Q k => ?_) (fun τ q Q k => ?_)
    · rw [bPb_odds_0, Tw_hasPerson T10 t1 b1, tl_s, bPb_odds_8, b2i_f ha, ite_nn rfl, bPb_odds_11, bPb_deny_0, tl_s, bPb_odds_16 (Or.inl rfl)]
      exact k _ (by repeat' (first | exact qt_rf | assumption | refine qt_sI ?_ rfl | refine qt_sL ?_ rfl)) rfl
    · rw [bMo_odds_0, mp τ q, tl_s, bMo_odds_15, b2i_f ha, ite_nn rfl, bMo_odds_18, bMo_no_0, tl_s, bMo_odds_23 (Or.inl rfl)]
      exact k _ (by repeat' (first | exact qt_rf | assumption | refine qt_sI ?_ rfl | refine qt_sL ?_ rfl)) rfl rfl
  have ha' := ha
  obtain ⟨p, hp, rfl⟩ := mOut_n ha
  have X0 : ∀ Q : mPost, WP E (d + 80) mPb_odds 0 [.ref 0, .int (nI p), .int b, .int s, .int m, u1, u2] [] σ Q = WP E (d + 80) mPb_odds 17 [.ref 0, .int (nI p), .int b, .int s, .int m, u1, u2] [] σ Q := fun Q => by
    rw [bPb_odds_0, Tw_hasPerson T10 t1 b1, tl_s, bPb_odds_8, b2i_t ha', if_pos i10]
  have Y0 : ∀ (τ : mSt), (∀ (a : Int32) (d : Nat) (Q : mPost), WP E (d + 1) mMo_isPersonAt 0 [.ref 166, .int a] [] (sI (sI τ 166 1 0) 166 0 0) Q = Q (some (.int (b2i (mOut a np = false)))) (sI (sI τ 166 1 0) 166 0 0)) → ∀ Q : mPost, WP E (d + 80) mMo_odds 0 [.ref 166, .int (nI p), .int b, .int s, .int m, u3, u4, u5] [] τ Q = WP E (d + 80) mMo_odds 24 [.ref 166, .int (nI p), .int b, .int s, .int m, u3, u4, u5] [] (sI (sI τ 166 1 0) 166 0 0) Q := fun τ q Q => by
    rw [bMo_odds_0, q, tl_s, bMo_odds_15, b2i_t ha', if_pos i10]
  have R5 : ∀ Q : mPost, (∀ τ, qt SQ σ τ → τ.1 0 10 = nI 5 → Q (some (.int 0)) τ) → ∀ b s m : Int32, WP E (d + 80) mPb_odds 46 [.ref 0, .int (nI p), .int b, .int s, .int m, u1, u2] [] σ Q ∧ WP E (d + 80) mPb_odds 64 [.ref 0, .int (nI p), .int b, .int s, .int m, u1, u2] [] σ Q := fun Q k b s m => by
    rw [bPb_odds_46, bPb_deny_0, tl_s, bPb_odds_51 (Or.inl rfl), bPb_odds_64, bPb_deny_0, tl_s, bPb_odds_69 (Or.inl rfl)]
    exact ⟨k _ (by repeat' (first | exact qt_rf | assumption | refine qt_sI ?_ rfl | refine qt_sL ?_ rfl)) rfl, k _ (by repeat' (first | exact qt_rf | assumption | refine qt_sI ?_ rfl | refine qt_sL ?_ rfl)) rfl⟩
  have S5 : ∀ (τ : mSt) (Q : mPost), (∀ υ, qt SQ τ υ → υ.1 166 0 = nI 5 → υ.1 0 10 = τ.1 0 10 → Q (some (.int 0)) υ) → ∀ b s m : Int32, WP E (d + 80) mMo_odds 65 [.ref 166, .int (nI p), .int b, .int s, .int m, u3, u4, u5] [] (sI (sI τ 166 1 0) 166 0 0) Q := fun τ Q k b s m => by
    rw [bMo_odds_65, bMo_no_0, tl_s, bMo_odds_70 (Or.inl rfl)]
    exact k _ (by repeat' (first | exact qt_rf | assumption | refine qt_sI ?_ rfl | refine qt_sL ?_ rfl)) rfl rfl
  rcases sw_cs b 1 999 with ⟨b', x1, x2, rfl⟩ | hne
  rotate_left
  · refine pairI_q hI 0 (nI 5) (fun Q k => ?_) (fun τ q Q k => ?_)
    · rw [X0, bPb_odds_17, bPb_odds_22, rngA (l' := 1) (h' := nI 999) (lo := 1) (hi := 999) rfl rfl (by omega) (by omega) hne]
      exact (R5 Q k _ _ _).1
    · rw [Y0 τ (mp τ q), bMo_odds_24, Mo_isIn, tl_s, bMo_odds_33, b2i_f (isIn_f (l6 := 1) (h6 := 999) (lo := 1) (hi := 999) rfl rfl (by omega) (by omega) hne), if_pos rfl]
      exact S5 τ Q k _ _ _
  rcases sw_cs m 1 20 with ⟨m', m1, m2, rfl⟩ | hne
  rotate_left
  · refine pairI_q hI 0 (nI 5) (fun Q k => ?_) (fun τ q Q k => ?_)
    · rw [X0, bPb_odds_17, bPb_odds_22, rngB (l' := 1) (h' := nI 999) (lo := 1) (hi := 999) rfl rfl (by omega) x1 x2, bPb_odds_29, bPb_odds_33, bPb_odds_39, rngC (l' := 1) (h' := nI 20) (lo := 1) (hi := 20) rfl rfl (by omega) (by omega) hne, ite_self]
      exact (R5 Q k _ _ _).1
    · rw [Y0 τ (mp τ q), bMo_odds_24, Mo_isIn, tl_s, bMo_odds_33, b2i_t (isIn_t (l6 := 1) (h6 := 999) (lo := 1) (hi := 999) rfl rfl (by omega) x1 x2), if_neg i10, bMo_odds_36, Mo_isIn, tl_s, bMo_odds_46, b2i_f (isIn_f (l6 := 1) (h6 := 20) (lo := 1) (hi := 20) rfl rfl (by omega) (by omega) hne), if_pos rfl]
      exact S5 τ Q k _ _ _
  have e1 : nI 9999 - nI m' + 1 = nI (10000 - m') := by rw [pk_sub (by omega), nI_1, show 9999 - m' + 1 = 10000 - m' by omega]
  have e2 : (nI 10000 - nI m').toInt64 = (nI (10000 - m')).toInt64 := by rw [pk_sub (by omega)]
  have X1 : ∀ Q : mPost, WP E (d + 80) mPb_odds 0 [.ref 0, .int (nI p), .int (nI b'), .int s, .int (nI m'), u1, u2] [] σ Q = if s < 0 then WP E (d + 80) mPb_odds 46 [.ref 0, .int (nI p), .int (nI b'), .int s, .int (nI m'), u1, u2] [] σ Q else if s ≤ nI (10000 - m') then WP E (d + 80) mPb_odds 70 [.ref 0, .int (nI p), .int (nI b'), .int s, .int (nI m'), u1, u2] [] σ Q else WP E (d + 80) mPb_odds 64 [.ref 0, .int (nI p), .int (nI b'), .int s, .int (nI m'), u1, u2] [] σ Q := fun Q => by
    rw [X0, bPb_odds_17, bPb_odds_22, rngB (l' := 1) (h' := nI 999) (lo := 1) (hi := 999) rfl rfl (by omega) x1 x2, bPb_odds_29, bPb_odds_33, bPb_odds_39, rngD (l' := 1) (h' := nI 20) (lo := 1) (hi := 20) rfl rfl (by omega) m1 m2, bPb_odds_52, e1]
  have Y1 : ∀ (τ : mSt), (∀ (a : Int32) (d : Nat) (Q : mPost), WP E (d + 1) mMo_isPersonAt 0 [.ref 166, .int a] [] (sI (sI τ 166 1 0) 166 0 0) Q = Q (some (.int (b2i (mOut a np = false)))) (sI (sI τ 166 1 0) 166 0 0)) → ∀ Q : mPost, WP E (d + 80) mMo_odds 0 [.ref 166, .int (nI p), .int (nI b'), .int s, .int (nI m'), u3, u4, u5] [] τ Q = WP E (d + 80) mMo_odds 62 [.ref 166, .int (nI p), .int (nI b'), .int s, .int (nI m'), u3, u4, u5] [.int (b2i (¬ s.toInt64 < 0 ∧ ¬ (nI (10000 - m')).toInt64 < s.toInt64))] (sI (sI τ 166 1 0) 166 0 0) Q := fun τ q Q => by
    rw [Y0 τ q, bMo_odds_24, Mo_isIn, tl_s, bMo_odds_33, b2i_t (isIn_t (l6 := 1) (h6 := 999) (lo := 1) (hi := 999) rfl rfl (by omega) x1 x2), if_neg i10, bMo_odds_36, Mo_isIn, tl_s, bMo_odds_46, b2i_t (isIn_t (l6 := 1) (h6 := 20) (lo := 1) (hi := 20) rfl rfl (by omega) m1 m2), if_neg i10, bMo_odds_49, Mo_isIn, tl_s, e2]
  rcases sw_cs s 0 (10000 - m') with ⟨s', -, s2, rfl⟩ | hne
  rotate_left
  · refine pairI_q hI 0 (nI 5) (fun Q k => ?_) (fun τ q Q k => ?_)
    · rw [X1]
      by_cases z : s < 0
      · rw [if_pos z]; exact (R5 Q k _ _ _).1
      · obtain ⟨y, hy, rfl⟩ := nI_of z
        have : ¬ y ≤ 10000 - m' := fun g => hne y (Nat.zero_le _) g rfl
        rw [if_neg z, if_neg (nI_ge (by omega) hy)]; exact (R5 Q k _ _ _).2
    · rw [Y1 τ (mp τ q), bMo_odds_62, b2i_f (isIn_f (l6 := 0) (lo := 0) (hi := 10000 - m') rfl rfl (by omega) (by omega) hne), ite_nn rfl]
      exact S5 τ Q k _ _ _
  obtain ⟨d1, d2⟩ : DRel σ 10 (σ.1 171) np no nl := hT.2.2.2.2.2.2.2.2.2.2.2.2.2
  have d1' : σ.1 22 5 = σ.1 171 322 := d1
  have X2 : ∀ Q : mPost, WP E (d + 80) mPb_odds 0 [.ref 0, .int (nI p), .int (nI b'), .int (nI s'), .int (nI m'), u1, u2] [] σ Q = WP E (d + 80) mPb_odds 70 [.ref 0, .int (nI p), .int (nI b'), .int (nI s'), .int (nI m'), u1, u2] [] σ Q := fun Q => by
    rw [X1, if_neg (nI_pos (by omega)), if_pos (nI_le s2 (by omega))]
  have Y2 : ∀ (τ : mSt), (∀ (a : Int32) (d : Nat) (Q : mPost), WP E (d + 1) mMo_isPersonAt 0 [.ref 166, .int a] [] (sI (sI τ 166 1 0) 166 0 0) Q = Q (some (.int (b2i (mOut a np = false)))) (sI (sI τ 166 1 0) 166 0 0)) → ∀ Q : mPost, WP E (d + 80) mMo_odds 0 [.ref 166, .int (nI p), .int (nI b'), .int (nI s'), .int (nI m'), u3, u4, u5] [] τ Q = WP E (d + 80) mMo_odds 71 [.ref 166, .int (nI p), .int (nI b'), .int (nI s'), .int (nI m'), u3, u4, u5] [] (sI (sI τ 166 1 0) 166 0 0) Q := fun τ q Q => by
    rw [Y1 τ q, bMo_odds_62, b2i_t (isIn_t (l6 := 0) (lo := 0) (hi := 10000 - m') rfl rfl (by omega) (Nat.zero_le _) s2), if_pos i10]
  rcases d2 with d2 | ⟨d2, n, R, hn30, hR, en, -, -, -⟩
  · refine pairI_q hI 0 (nI 8) (fun Q k => ?_) (fun τ q Q k => ?_)
    · rw [X2, bPb_odds_70, d1', d2, ite_nn rfl, bPb_odds_83, bPb_deny_0, tl_s, bPb_odds_89 (Or.inl rfl)]
      exact k _ (by repeat' (first | exact qt_rf | assumption | refine qt_sI ?_ rfl | refine qt_sL ?_ rfl)) rfl
    · rw [Y2 τ (mp τ q), bMo_odds_71, if_neg (by decide), hq τ q, d2, ite_nn rfl, bMo_odds_82, bMo_no_0, tl_s, bMo_odds_88 (Or.inl rfl)]
      exact k _ (by repeat' (first | exact qt_rf | assumption | refine qt_sI ?_ rfl | refine qt_sL ?_ rfl)) rfl rfl
  have hB : RBo σ := hI.2.2.2.2.1.2.2
  have hg := hI.2.2.2.2.1
  unfold pairI
  rw [X2, bPb_odds_70, d1', d2, if_pos i10, bPb_odds_90]
  refine Pb_od_loop (d := d + 69) (seed := s') (sl := nI b') hT hp d2 en hn30 m2 (by omega) m' 0 σ (by omega) qt_rf hB (fun x hx => absurd hx (by omega)) (fun υ q1 hB1 hM => ?_)
  have oN := odN_le (np := np) (no := no) (n := n) (p := p) (c := σ.1 171) (sl := nI b') (seed := s') m'
  rw [bPb_odds_151, nI_l (show odN np no n p (σ.1 171) (nI b') s' m' < 2147483648 by omega), nI_l (show m' < 2147483648 by omega)]
  refine Pb_tell (by omega) (by omega) (by omega) ?_
  rw [tl_n, bPb_odds_161, bPb_grant_0, tl_s, bPb_odds_165 (Or.inr rfl)]
  refine ⟨1, rfl, ?_⟩
  generalize hX : lN (odN np no n p (σ.1 171) (nI b') s' m') / lN (Nat.gcd m' (odN np no n p (σ.1 171) (nI b') s' m')) = X
  generalize hY : lN m' / lN (Nat.gcd m' (odN np no n p (σ.1 171) (nI b') s' m')) = Y
  have ge : ∀ o, 166 ≤ o → (sI (sL (sL υ 0 11 X) 0 12 Y) 0 10 0).1 o = σ.1 o ∧ (sI (sL (sL υ 0 11 X) 0 12 Y) 0 10 0).2 o = σ.2 o := fun o ho => ⟨funext fun k => by
    rw [sI_n (by omega)]
    exact (q1 o k (SOc_f (by omega))).1, funext fun k => by
    show (sL (sL υ 0 11 X) 0 12 Y).2 o k = _
    rw [sL_n (by omega), sL_n (by omega)]
    exact (q1 o k (SOc_f (by omega))).2⟩
  have hc := mo0 ge
  rw [Y2 _ (mpt c1 b1 ge), bMo_odds_71, if_neg (by decide), hc, d2, if_pos i10, bMo_odds_89]
  refine Mo_od_keep (c := σ.1 171) 322 0 _ (by omega) hc (fun x hx => absurd hx (by omega)) (fun φ a5 q2 g2 => ?_)
  rw [bMo_odds_120]
  have hc3 : φ.1 171 = σ.1 171 := (funext fun k => (q2 171 k rfl).1).trans hc
  refine Mo_od_loop (d := d + 6) (σ := φ) (sl := nI b') (seed := s') (by omega) en m2 (by omega) hM m' 0 φ _ (by omega) qt_rf rfl hc3 g2 (fun ω u7 q3 g3 g4 => ?_)
  rw [bMo_odds_201, nI_l (show odN np no n p (σ.1 171) (nI b') s' m' < 2147483648 by omega), nI_l (show m' < 2147483648 by omega)]
  refine Mo_fraction (by omega) (by omega) (by omega) ?_
  rw [tl_s, bMo_odds_211 (Or.inr rfl), hX, hY]
  refine ⟨rfl, ?_⟩
  have lo : ∀ o, o < 166 → (sL (sL ω 166 2 X) 166 3 Y).1 o = (sI (sL (sL υ 0 11 X) 0 12 Y) 0 10 0).1 o ∧ (sL (sL ω 166 2 X) 166 3 Y).2 o = (sI (sL (sL υ 0 11 X) 0 12 Y) 0 10 0).2 o := fun o ho => by
    have v1 : ∀ k, SMv o k = false := fun k => by simp only [SMv, SMo, Bool.or_eq_false_iff, Bool.and_eq_false_iff, decide_eq_false_iff_not, beq_eq_false_iff_ne]; omega
    have v2 : ∀ k : Nat, (fun o (_ : Nat) => o == 172) o k = false := fun k => by simp; omega
    refine ⟨funext fun k => ?_, funext fun k => ?_⟩
    · show ω.1 o k = _
      rw [(q3 o k (v1 k)).1, (q2 o k (v2 k)).1, sI_n (by omega), sI_n (by omega)]
    · rw [sL_n (by omega), sL_n (by omega), (q3 o k (v1 k)).2, (q2 o k (v2 k)).2]; rfl
  have Z : qt SOd σ (sL (sL ω 166 2 X) 166 3 Y) := fun o k h => by
    have h' : SOc o k = false ∧ SMv o k = false ∧ (o == 172) = false ∧ ¬ (o = 0 ∧ (k = 10 ∨ k = 11 ∨ k = 12)) ∧ ¬ (o = 166 ∧ (k = 0 ∨ k = 1 ∨ k = 2 ∨ k = 3)) := by
      simp only [SOd, SOc, SMv, SMo, SQ, S171, Bool.or_eq_false_iff, Bool.and_eq_false_iff, decide_eq_false_iff_not, beq_eq_false_iff_ne, bne_eq_false_iff_eq, ne_eq] at h ⊢
      omega
    obtain ⟨h1, h2, h3, h4, h5⟩ := h'
    have z1 := q1 o k h1
    have z2 := q2 o k h3
    have z3 := q3 o k h2
    have y2 : (sI (sI (sI (sL (sL υ 0 11 X) 0 12 Y) 0 10 0) 166 1 0) 166 0 0).1 o k = υ.1 o k := by
      rw [sI_n (by omega), sI_n (by omega), sI_n (by omega)]; rfl
    have y3 : (sI (sI (sI (sL (sL υ 0 11 X) 0 12 Y) 0 10 0) 166 1 0) 166 0 0).2 o k = υ.2 o k := by
      show (sL (sL υ 0 11 X) 0 12 Y).2 o k = _
      rw [sL_n (by omega), sL_n (by omega)]
    refine ⟨?_, ?_⟩
    · show ω.1 o k = _
      rw [z3.1, z2.1, y2, z1.1]
    · rw [sL_n (by omega), sL_n (by omega), z3.2, z2.2, y3, z1.2]
  refine Inv_Od hI Z ?_ ⟨?_, ?_⟩ ⟨?_, ?_, ?_⟩ ⟨np, no, nl, nk, dy, ?_⟩
  · rw [(lo 0 (by omega)).1]
    show _ = ω.1 166 0
    rw [g3, (q2 166 0 rfl).1, sI_e, sI_e]
  · rw [(lo 0 (by omega)).2]
    rw [sL_n (by omega), sL_e]
    show (sL (sL υ 0 11 X) 0 12 Y).2 0 11 = X
    rw [sL_n (by omega), sL_e]
  · rw [(lo 0 (by omega)).2, sL_e]
    show (sL (sL υ 0 11 X) 0 12 Y).2 0 12 = Y
    rw [sL_e]
  · rw [(Z 177 0 rfl).1]; exact hg.1
  · rw [(Z 178 0 rfl).1]; exact hg.2.1
  · intro t ht k
    have tl := isT_lt ht
    rw [(lo _ (by omega)).1, sI_n (by omega)]
    exact hB1 t ht k
  · have e1 : (sL (sL ω 166 2 X) 166 3 Y).1 171 = σ.1 171 := g4
    have e2 : (sL (sL ω 166 2 X) 166 3 Y).2 173 = σ.2 173 := funext fun k => (Z 173 k rfl).2
    rw [e1, e2]
    exact TRel_q Z (fun j k hj x1 x2 => by simp only [SOd, SQ, Bool.or_eq_false_iff, Bool.and_eq_false_iff, beq_eq_false_iff_ne, decide_eq_false_iff_not, ne_eq]; omega) hT
