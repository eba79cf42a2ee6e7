/-! many, ringAt, lived, mean -/
theorem bs1F : ∀ p : Fin 8, ∀ x : Fin 256, (((nI x >>> (nI p &&& 31)) &&& 1 = 1) ↔ Nat.testBit x p = true) := by decide +kernel
theorem bs3F : ∀ p : Fin 8, ∀ x : Fin 256, x.1 < 2 ^ p.1 → nI x.1 ||| (1 <<< (nI p.1 &&& 31)) = nI (x.1 + 2 ^ p.1) := by decide +kernel
theorem bs1 {x p : Nat} (hp : p < 8) (hx : x < 256) : ((nI x >>> (nI p &&& 31)) &&& 1 = 1) ↔ Nat.testBit x p = true := bs1F ⟨p, hp⟩ ⟨x, hx⟩
theorem bs3 {x p : Nat} (hp : p < 8) (hx : x < 2 ^ p) : nI x ||| (1 <<< (nI p &&& 31)) = nI (x + 2 ^ p) := bs3F ⟨p, hp⟩ ⟨x, by
  have : 2 ^ p ≤ 2 ^ 8 := Nat.pow_le_pow_right (by omega) (by omega)
  omega⟩ hx
theorem sF_N {P : Nat → Prop} [DecidablePred P] : ∀ n, n ≤ 8 → ∃ y, y < 2 ^ n ∧ sF P n = nI y ∧ ∀ l, l < n → (Nat.testBit y l = true ↔ P l)
  | 0, _ => ⟨0, by omega, rfl, fun l h => absurd h (by omega)⟩
  | n + 1, hn => by
    obtain ⟨y, h1, h2, h3⟩ := sF_N (P := P) n (by omega)
    have e2 : 2 ^ (n + 1) = 2 ^ n + 2 ^ n := by rw [Nat.pow_succ]; omega
    rw [sF]
    by_cases z : P n
    · rw [if_pos z, h2, bs3 (by omega) h1]
      refine ⟨y + 2 ^ n, by omega, rfl, fun l hl => ?_⟩
      rw [Nat.add_comm]
      by_cases e : l = n
      · subst e
        rw [Nat.testBit_two_pow_add_eq, Nat.testBit_lt_two_pow h1]
        simp [z]
      · rw [Nat.testBit_two_pow_add_gt (by omega)]; exact h3 l (by omega)
    · rw [if_neg z]
      refine ⟨y, by omega, h2, fun l hl => ?_⟩
      by_cases e : l = n
      · subst e
        rw [Nat.testBit_lt_two_pow h1]
        simp [z]
      · exact h3 l (by omega)
theorem sF_eq {P : Nat → Prop} [DecidablePred P] {n x : Nat} (hn : n ≤ 8) (hx : x < 2 ^ n) (h : ∀ l, l < n → (Nat.testBit x l = true ↔ P l)) : sF P n = nI x := by
  obtain ⟨y, h1, h2, h3⟩ := sF_N (P := P) n hn
  have : y = x := Nat.eq_of_testBit_eq (fun i => by
    by_cases hi : i < n
    · have a := h i hi
      have b := h3 i hi
      cases hA : Nat.testBit x i <;> cases hB : Nat.testBit y i <;> simp_all
    · have : 2 ^ n ≤ 2 ^ i := Nat.pow_le_pow_right (by omega) (by omega)
      rw [Nat.testBit_lt_two_pow (show y < 2 ^ i by omega), Nat.testBit_lt_two_pow (show x < 2 ^ i by omega)])
  rw [h2, this]
theorem pw8 {n x : Nat} (hn : n ≤ 8) (hx : x < 2 ^ n) : x < 256 := by
  have : 2 ^ n ≤ 2 ^ 8 := Nat.pow_le_pow_right (by omega) hn
  omega
theorem Mo_baked_loop {E : mEn} {d : Nat} {Q : mPost} {nl : Nat} {c : Nat → Int32} {τ : mSt} (c2 : c 2 = nI nl) (hn : nl ≤ 8) (hc : τ.1 171 = c) : ∀ (j l : Nat) (s : Int32), l + j = nl → s = sF (fun l => ¬ c (74 + l) < 0) l → WP E (d + 1) mMo_bakedSet 4 [.ref 166, .int s, .int (nI l)] [] τ Q = Q (some (.int (sF (fun l => ¬ c (74 + l) < 0) nl))) τ
  | 0, l, s, e, hs => by
    have e' : l = nl := by omega
    subst e'
    rw [bMo_bakedSet_4, if_neg (by decide), hc, c2, if_pos (Int32.le_refl _), bMo_bakedSet_38, hs]
  | j + 1, l, s, e, hs => by
    rw [bMo_bakedSet_4, if_neg (by decide), hc, c2, if_neg (nI_ge (by omega) (by omega)), bMo_bakedSet_14, Mo_isBaked (show l < 8 by omega), tl_s, bMo_bakedSet_20, hc]
    by_cases z : ¬ c (74 + l) < 0
    · rw [b2i_t z, if_neg i10, bMo_bakedSet_23, bMo_bakedSet_30, nI_1]
      exact Mo_baked_loop c2 hn hc j (l + 1) _ (by omega) (by rw [sF, if_pos z, hs])
    · rw [b2i_f z, if_pos rfl, bMo_bakedSet_29, bMo_bakedSet_30, nI_1]
      exact Mo_baked_loop c2 hn hc j (l + 1) _ (by omega) (by rw [sF, if_neg z, hs, Int32.or_zero])
theorem P_many {E : mEn} {d : Nat} {σ : mSt} {w : Int32} (hI : Inv σ) : pairI E (d + 3) mPb_many mMo_many [.ref 0, .int w] [.ref 166, .int w] σ := by
  by_cases h5 : w = nI 5
  rotate_left
  · exact P_many_no5 hI h5
  subst h5
  obtain ⟨np, no, nl, nk, dy, hT⟩ := Inv_town hI
  obtain ⟨⟨b1, b2, b3, b4, b5⟩, ⟨t1, c1⟩, ⟨t2, c2⟩, ⟨t3, c3⟩, ⟨t4, c4⟩, ⟨t5, c5⟩, c6, gP, gO, gL, gB, gK, -⟩ := id hT
  have hq : ∀ τ : mSt, qt SQ σ τ → (sI (sI τ 166 1 0) 166 0 0).1 171 = σ.1 171 := fun τ q => funext fun k => (q 171 k rfl).1
  have mp := @mpq E σ np c1 b1
  have ml := @mlq E σ nl c3 b3
  have mk := @mkq E σ nk c4 b4
  obtain ⟨x, hx, ex⟩ := gB
  refine pairI_q hI (nI x) 0 (fun Q k => ?_) (fun τ q Q k => ?_)
  · rw [bPb_many_0, bPb_many_0_s5, bPb_many_107, ex, bPb_answer_0, tl_s, bPb_many_118]
    exact k _ (by repeat' (first | exact qt_rf | assumption | refine qt_sI ?_ rfl | refine qt_sL ?_ rfl)) rfl
  · rw [bMo_many_0, bMo_many_0_s5, bMo_many_87, bMo_bakedSet_0]
    refine Eq.mpr (Mo_baked_loop (c := σ.1 171) c3 b3 (hq τ q) nl 0 0 (by omega) rfl) ?_
    rw [tl_s, bMo_many_91, sF_eq b3 hx (fun l hl => ?_)]
    · exact k _ (by repeat' (first | exact qt_rf | assumption | refine qt_sI ?_ rfl | refine qt_sL ?_ rfl)) rfl rfl
    · rw [← bs1 (by omega) (pw8 b3 hx), ← ex]
      rcases (gL l hl).2.2.2.2.2 with ⟨g1, g2⟩ | ⟨n, g1, g2, g3, g4⟩
      · rw [g1]; exact ⟨fun g => absurd g g2, fun g => absurd (by decide) g⟩
      · rw [g2]; exact ⟨fun _ => nI_pos (by omega), fun _ => g4⟩
theorem P_ringAt {E : mEn} {d : Nat} {σ : mSt} {a : Int32} (hI : Inv σ) : pairI E (d + 3) mPb_ringAt mMo_ringAt [.ref 0, .int a] [.ref 166, .int a] σ := by
  obtain ⟨n, r1, r2, r3, r4⟩ : RRg σ := hI.2.2.2.2.2.2.2.2.1
  by_cases ha : mOut a n = false
  · have ha' := ha
    obtain ⟨i, hi, rfl⟩ := mOut_n ha
    refine pairI_q hI (σ.1 72 i) 0 (fun Q k => ?_) (fun τ q Q k => ?_)
    · rw [bPb_ringAt_0, if_neg (nI_pos (by omega)), bPb_ringAt_4, r2, if_pos (nI_lt hi (by omega)), bPb_ringAt_22, mOut_f (by omega) (by omega), nI_clamp (by omega), if_neg (by decide), bPb_answer_0, tl_s, bPb_ringAt_35]
      exact k _ (by repeat' (first | exact qt_rf | assumption | refine qt_sI ?_ rfl | refine qt_sL ?_ rfl)) rfl
    · rw [bMo_ringAt_0, show (sI (sI τ 166 1 0) 166 0 0).1 166 33 = nI n from ((q 166 33 rfl).1).trans r3, Mo_isIn, tl_s, bMo_ringAt_23, b2i_t ((isIn0 (by omega)).mpr ha'), if_neg i10, bMo_ringAt_26, mOut_f (by omega) (by omega), nI_clamp (by omega), if_neg (by decide), show (sI (sI τ 166 1 0) 166 0 0).1 180 i = σ.1 72 i from ((q 180 i rfl).1).trans (r4 i hi).symm, bMo_ringAt_41]
      exact k _ (by repeat' (first | exact qt_rf | assumption | refine qt_sI ?_ rfl | refine qt_sL ?_ rfl)) rfl rfl
  · have hv : mOut a n = true := by simpa using ha
    refine pairI_q hI (-1) (nI 8) (fun Q k => ?_) (fun τ q Q k => ?_)
    · have e : ∀ Q : mPost, WP E (d + 3) mPb_ringAt 15 [.ref 0, .int a] [] σ Q = Q (some (.int (-1))) (sI σ 0 10 (nI 8)) := fun Q => by
        rw [bPb_ringAt_15, bPb_refuse_0, tl_s, bPb_ringAt_21]
      rw [bPb_ringAt_0, bPb_ringAt_4, r2]
      by_cases h0 : a < 0
      · rw [if_pos h0, e]; exact k _ (by repeat' (first | exact qt_rf | assumption | refine qt_sI ?_ rfl | refine qt_sL ?_ rfl)) rfl
      · rw [if_neg h0, if_neg (Int32.not_lt.mpr (((mOut_or (by omega)).mp hv).resolve_left h0)), e]; exact k _ (by repeat' (first | exact qt_rf | assumption | refine qt_sI ?_ rfl | refine qt_sL ?_ rfl)) rfl
    · rw [bMo_ringAt_0, show (sI (sI τ 166 1 0) 166 0 0).1 166 33 = nI n from ((q 166 33 rfl).1).trans r3, Mo_isIn, tl_s, bMo_ringAt_23, b2i_f (fun w => ha ((isIn0 (by omega)).mp w)), if_pos rfl, bMo_ringAt_35, bMo_refuse_0, tl_s, bMo_ringAt_41]
      exact k _ (by repeat' (first | exact qt_rf | assumption | refine qt_sI ?_ rfl | refine qt_sL ?_ rfl)) rfl rfl
theorem out5 {a : Int32} {lo hi : Nat} (hh : hi < 2 ^ 31) (hl : lo < 2 ^ 31) (hne : ∀ k : Nat, lo ≤ k → k ≤ hi → a ≠ nI k) {A B : Prop} : (if a < nI lo then A else if a ≤ nI hi then B else A) = A := by
  rcases sw_lt hh hne with h | h
  · rw [if_pos (by rw [Int32.lt_iff_toInt_lt, nI_toInt hl]; exact h)]
  · rw [if_neg (c := a ≤ nI hi) (by rw [Int32.le_iff_toInt_le, nI_toInt hh]; omega), ite_self]
theorem P_lived {E : mEn} {d : Nat} {σ : mSt} {a : Int32} (hI : Inv σ) : pairI E (d + 3) mPb_lived mMo_lived [.ref 0, .int a] [.ref 166, .int a] σ := by
  obtain ⟨r1, r2⟩ : RLv σ := hI.2.2.2.2.2.2.2.1
  rcases sw_cs a 0 4 with ⟨i, -, hi, rfl⟩ | hne
  rotate_left
  · refine pairI_q hI (-1) (nI 5) (fun Q k => ?_) (fun τ q Q k => ?_)
    · rw [bPb_lived_0, bPb_lived_4, show (0 : Int32) = nI 0 from rfl, out5 (lo := 0) (hi := 4) (by omega) (by omega) hne, bPb_lived_9, bPb_refuse_0, tl_s, bPb_lived_14]
      exact k _ (by repeat' (first | exact qt_rf | assumption | refine qt_sI ?_ rfl | refine qt_sL ?_ rfl)) rfl
    · rw [bMo_lived_0, Mo_isIn, tl_s, bMo_lived_19, b2i_f (isIn_f (l6 := 0) (h6 := 4) (lo := 0) (hi := 4) rfl rfl (by omega) (by omega) hne), ite_nn rfl, bMo_lived_22, bMo_refuse_0, tl_s, bMo_lived_27]
      exact k _ (by repeat' (first | exact qt_rf | assumption | refine qt_sI ?_ rfl | refine qt_sL ?_ rfl)) rfl rfl
  have e1 : ∀ Q : mPost, WP E (d + 3) mPb_lived 0 [.ref 0, .int (nI i)] [] σ Q = WP E (d + 3) mPb_lived 15 [.ref 0, .int (nI i)] [] σ Q := fun Q => by
    rw [bPb_lived_0, if_neg (nI_pos (by omega)), bPb_lived_4, if_pos (nI_le (by omega) (by omega))]
  have e2 : ∀ (τ : mSt) (Q : mPost), WP E (d + 3) mMo_lived 0 [.ref 166, .int (nI i)] [] τ Q = WP E (d + 3) mMo_lived 28 [.ref 166, .int (nI i)] [] (sI (sI τ 166 1 0) 166 0 0) Q := fun τ Q => by
    rw [bMo_lived_0, Mo_isIn, tl_s, bMo_lived_19, b2i_t (isIn_t (l6 := 0) (h6 := 4) (lo := 0) (hi := 4) rfl rfl (by omega) (by omega) hi), if_pos i10]
  rcases r2 with r2 | ⟨r2, s0, s1, s2, s3, s4, s5⟩
  · refine pairI_q hI (-1) (nI 8) (fun Q k => ?_) (fun τ q Q k => ?_)
    · rw [e1, bPb_lived_15, r1, r2, ite_nn rfl, bPb_lived_22, bPb_refuse_0, tl_s, bPb_lived_28]
      exact k _ (by repeat' (first | exact qt_rf | assumption | refine qt_sI ?_ rfl | refine qt_sL ?_ rfl)) rfl
    · rw [e2, bMo_lived_28, show (sI (sI τ 166 1 0) 166 0 0).1 166 37 = 0 from ((q 166 37 rfl).1).trans r2, if_pos rfl, bMo_lived_44, bMo_refuse_0, tl_s, bMo_lived_50]
      exact k _ (by repeat' (first | exact qt_rf | assumption | refine qt_sI ?_ rfl | refine qt_sL ?_ rfl)) rfl rfl
  refine pairI_q hI (σ.1 183 i) 0 (fun Q k => ?_) (fun τ q Q k => ?_)
  · rw [e1, bPb_lived_15, r1, r2, if_pos i10, bPb_lived_29]
    match i, hi with
    | 0, _ =>
      rw [bPb_lived_29_s0, bPb_lived_60, bPb_answer_0, tl_s, bPb_lived_71, s0]
      exact k _ (by repeat' (first | exact qt_rf | assumption | refine qt_sI ?_ rfl | refine qt_sL ?_ rfl)) rfl
    | 1, _ =>
      rw [bPb_lived_29_s1, bPb_lived_72, bPb_answer_0, tl_s, bPb_lived_83, s1]
      exact k _ (by repeat' (first | exact qt_rf | assumption | refine qt_sI ?_ rfl | refine qt_sL ?_ rfl)) rfl
    | 2, _ =>
      rw [bPb_lived_29_s2, bPb_lived_84, bPb_answer_0, tl_s, bPb_lived_95, s2]
      exact k _ (by repeat' (first | exact qt_rf | assumption | refine qt_sI ?_ rfl | refine qt_sL ?_ rfl)) rfl
    | 3, _ =>
      rw [bPb_lived_29_s3, bPb_lived_96, bPb_answer_0, tl_s, bPb_lived_107, s3]
      exact k _ (by repeat' (first | exact qt_rf | assumption | refine qt_sI ?_ rfl | refine qt_sL ?_ rfl)) rfl
    | 4, _ =>
      rw [bPb_lived_29_sD (fun k _ h2 g => by have := (nI_eq (a := 4) (b := k) (by omega) (by omega)).mp g; omega), bPb_lived_108, s4]
      rcases s5 with s5 | s5
      · rw [s5] at k ⊢
        rw [if_pos rfl, bPb_lived_123, bPb_lived_124, bPb_answer_0, tl_s, bPb_lived_127]
        exact k _ (by repeat' (first | exact qt_rf | assumption | refine qt_sI ?_ rfl | refine qt_sL ?_ rfl)) rfl
      · rw [s5] at k ⊢
        rw [if_neg i10, bPb_lived_119, bPb_lived_124, bPb_answer_0, tl_s, bPb_lived_127]
        exact k _ (by repeat' (first | exact qt_rf | assumption | refine qt_sI ?_ rfl | refine qt_sL ?_ rfl)) rfl
  · rw [e2, bMo_lived_28, show (sI (sI τ 166 1 0) 166 0 0).1 166 37 = 1 from ((q 166 37 rfl).1).trans r2, if_neg i10, bMo_lived_35, mOut_f (by omega) (by omega), nI_clamp (by omega), if_neg (by decide), show (sI (sI τ 166 1 0) 166 0 0).1 183 i = σ.1 183 i from (q 183 i rfl).1, bMo_lived_50]
    exact k _ (by repeat' (first | exact qt_rf | assumption | refine qt_sI ?_ rfl | refine qt_sL ?_ rfl)) rfl rfl
def SFr (o k : Nat) : Bool := SQ o k || ((o == 0 && (k == 11 || k == 12)) || (o == 166 && (k == 2 || k == 3)))
theorem SFr_T {t j k : Nat} (ht : 91 ≤ t ∧ t ≤ 141) (hj : j < 25) (h1 : j ≠ 10) (h2 : j ≠ 11) : SFr (t + j) k = false := by
  simp only [SFr, SQ, Bool.or_eq_false_iff, Bool.and_eq_false_iff, beq_eq_false_iff_ne, decide_eq_false_iff_not, ne_eq]
  omega
theorem Inv_Fr {σ τ : mSt} (h : Inv σ) (q : qt SFr σ τ) (hs : τ.1 0 10 = τ.1 166 0) (hfr : τ.2 0 11 = τ.2 166 2 ∧ τ.2 0 12 = τ.2 166 3) : Inv τ := by
  have e1 : ∀ o k, SFr o k = false → τ.1 o k = σ.1 o k := fun o k g => (q o k g).1
  have e2 : ∀ o k, SFr o k = false → τ.2 o k = σ.2 o k := fun o k g => (q o k g).2
  have f1 : ∀ o, (∀ k, SFr o k = false) → τ.1 o = σ.1 o := fun o g => funext fun k => e1 o k (g k)
  have f2 : ∀ o, (∀ k, SFr o k = false) → τ.2 o = σ.2 o := fun o g => funext fun k => e2 o k (g k)
  obtain ⟨h1, h2, h3, h4, h5, h6, h7, h8, h9, h10, h11⟩ := h
  refine ⟨hs, ?_, ?_, ?_, ?_, ?_, ?_, ?_, ?_, ?_, ?_⟩
  · exact hfr
  · rw [e1 0 13 rfl, e1 0 14 rfl, e1 166 10 rfl, e1 166 11 rfl]; exact h3
  · rw [f1 7 (fun _ => rfl), f1 170 (fun _ => rfl), e1 6 2 rfl, e1 166 8 rfl]; exact h4
  · exact ⟨by rw [e1 177 0 rfl]; exact h5.1, by rw [e1 178 0 rfl]; exact h5.2.1, fun t ht k => by rw [e1 (t + 9) k (by rcases ht with rfl | rfl | rfl | rfl | rfl <;> rfl)]; exact h5.2.2 t ht k⟩
  · unfold RTr; rw [f2 2 (fun _ => rfl), f2 169 (fun _ => rfl), f1 3 (fun _ => rfl), f1 167 (fun _ => rfl), f1 4 (fun _ => rfl), f1 168 (fun _ => rfl)]; exact h6
  · obtain ⟨k, b1, b2, b3, b4⟩ := h7
    refine ⟨k, b1, by rw [e1 0 9 rfl]; exact b2, by rw [e1 166 23 rfl]; exact b3, fun i hi => ?_⟩
    have ec : (fun j => τ.1 171 (600 * (i + 1) + j)) = fun j => σ.1 171 (600 * (i + 1) + j) := funext fun j => e1 171 _ (by simp only [SFr, SQ, Bool.or_eq_false_iff, Bool.and_eq_false_iff, beq_eq_false_iff_ne, decide_eq_false_iff_not, ne_eq]; omega)
    have ew : (fun j => τ.2 173 (20 * (i + 1) + j)) = fun j => σ.2 173 (20 * (i + 1) + j) := funext fun j => e2 173 _ (by simp only [SFr, SQ, Bool.or_eq_false_iff, Bool.and_eq_false_iff, beq_eq_false_iff_ne, decide_eq_false_iff_not, ne_eq]; omega)
    rw [ec, ew]
    obtain ⟨np, no, nl, nk, dy, g⟩ := b4 i hi
    exact ⟨np, no, nl, nk, dy, TRel_q q (fun j k' hj x1 x2 => SFr_T (by omega) hj x1 x2) g⟩
  · unfold RLv; rw [e1 0 15 rfl, e1 166 37 rfl, e1 73 4 rfl, e1 73 5 rfl, e1 73 6 rfl, e1 73 7 rfl, e1 73 8 rfl, f1 183 (fun _ => rfl)]; exact h8
  · unfold RRg; rw [e1 68 4 rfl, e1 166 33 rfl, f1 72 (fun _ => rfl), f1 180 (fun _ => rfl)]; exact h9
  · unfold RKw; rw [f2 8 (fun _ => rfl)]; exact h10
  · rw [f1 171 (fun _ => rfl), f2 173 (fun _ => rfl)]
    obtain ⟨np, no, nl, nk, dy, g⟩ := h11
    exact ⟨np, no, nl, nk, dy, TRel_q q (fun j k' hj x1 x2 => by simp only [SFr, SQ, Bool.or_eq_false_iff, Bool.and_eq_false_iff, beq_eq_false_iff_ne, decide_eq_false_iff_not, ne_eq]; omega) g⟩
theorem SQ_Fr {o k : Nat} (h : SQ o k = true) : SFr o k = true := by unfold SFr; rw [h]; rfl
theorem pairI_f {E : mEn} {d : Nat} {X Y : mM} {ax ay : List Value} {σ : mSt} (hI : Inv σ) (x y : Int64)
    (hx : ∀ Q : mPost, (∀ τ, qt SQ σ τ → Q (some (.int 1)) (sI (sL (sL τ 0 11 x) 0 12 y) 0 10 0)) → WP E d X 0 ax [] σ Q)
    (hy : ∀ τ, τ.1 171 = σ.1 171 → ∀ Q : mPost, (∀ υ, qt SQ τ υ → υ.1 166 0 = 0 → υ.1 0 10 = τ.1 0 10 → Q (some (.int 1)) (sL (sL υ 166 2 x) 166 3 y)) → WP E d Y 0 ay [] τ Q) : pairI E d X Y ax ay σ := by
  refine hx _ (fun τ q1 => ⟨1, rfl, hy (sI (sL (sL τ 0 11 x) 0 12 y) 0 10 0) (funext fun k => (q1 171 k rfl).1) _ (fun υ p1 p2 p3 => ⟨rfl, ?_⟩)⟩)
  have Z : qt SFr σ (sL (sL υ 166 2 x) 166 3 y) := qt_sL (qt_sL (qt_tr (qt_sI (qt_sL (qt_sL (qt_mono q1 (fun o k => SQ_Fr)) rfl) rfl) rfl) (qt_mono p1 (fun o k => SQ_Fr))) rfl) rfl
  refine Inv_Fr hI Z (by show υ.1 0 10 = υ.1 166 0; rw [p2, p3]; rfl) ⟨?_, ?_⟩
  · show υ.2 0 11 = x
    rw [(p1 0 11 rfl).2]; rfl
  · show υ.2 0 12 = y
    rw [(p1 0 12 rfl).2]; rfl
theorem lg_z {n : Nat} (h : n < 2 ^ 31) : (lg_cmp (lN n) 0 = 0) ↔ n = 0 := by
  have e0 : (0 : Int64) = lN 0 := rfl
  constructor
  · intro g
    have a : ¬ lN n < 0 := by rw [← lg_lt, g]; decide
    have b : ¬ 0 < lN n := by rw [← lg_gt, g]; decide
    rw [e0, pk_lLT (by omega) (by omega)] at b
    omega
  · intro g; rw [g]; rfl
theorem lN_g0 {n : Nat} (h0 : 0 < n) (h : n < 2 ^ 63) : (0 : Int64) < lN n := (pk_lLT (a := 0) (by omega) h).mpr h0
theorem gcd_mod (a b : Nat) : Nat.gcd (a % b) b = Nat.gcd b a := by rw [← Nat.gcd_rec]
/-- Euclid's steps on both sides -/
theorem Pb_tell_loop {E : mEn} {d : Nat} {Q : mPost} {σ : mSt} {x y : Int64} : ∀ (m a b i : Nat) (u10 u11 : Value), a < 2 ^ 31 → b < 2 ^ m → b < 2 ^ 31 → i + 2 * m + 1 ≤ 100 →
    (∀ (a9 : Int32) (v10 v11 : Value), WP E d mPb_tell 44 [.ref 0, .long x, uu, .long y, uu, .long (lN (Nat.gcd b a)), uu, .long 0, uu, .int a9, v10, v11] [] σ Q) → WP E d mPb_tell 9 [.ref 0, .long x, uu, .long y, uu, .long (lN a), uu, .long (lN b), uu, .int (nI i), u10, u11] [] σ Q
  | 0, a, b, i, u10, u11, ha, hb, hb2, hi, hQ => by
    have b0 : b = 0 := by omega
    subst b0
    rw [bPb_tell_9, if_neg (nI_ge (by omega) (by omega)), bPb_tell_16, if_pos ((lg_z (by omega)).mpr rfl)]
    have := hQ (nI i) u10 u11
    rw [Nat.gcd_zero_left] at this
    exact this
  | m + 1, a, b, i, u10, u11, ha, hb, hb2, hi, hQ => by
    by_cases b0 : b = 0
    · subst b0
      rw [bPb_tell_9, if_neg (nI_ge (by omega) (by omega)), bPb_tell_16, if_pos ((lg_z (by omega)).mpr rfl)]
      have := hQ (nI i) u10 u11
      rw [Nat.gcd_zero_left] at this
      exact this
    have r1 := Nat.mod_lt a (show 0 < b by omega)
    have z1 : ¬ lN b = 0 := fun g => b0 ((pk_lEQ (by omega) (by omega)).mp (g.trans (show (0 : Int64) = lN 0 from rfl)))
    rw [bPb_tell_9, if_neg (nI_ge (by omega) (by omega)), bPb_tell_16, if_neg (fun g => b0 ((lg_z hb2).mp g)), bPb_tell_23, if_neg z1, pk_lRem (by omega) (by omega) (by omega), nI_1]
    by_cases r0 : a % b = 0
    · rw [r0, bPb_tell_9, if_neg (nI_ge (by omega) (by omega)), bPb_tell_16, if_pos ((lg_z (by omega)).mpr rfl)]
      have e : Nat.gcd b a = b := by rw [← gcd_mod, r0, Nat.gcd_zero_left]
      have := hQ (nI (i + 1)) (.long (lN 0)) uu
      rw [e] at this
      exact this
    have r2 := Nat.mod_lt b (show 0 < a % b by omega)
    have z2 : ¬ lN (a % b) = 0 := fun g => r0 ((pk_lEQ (by omega) (by omega)).mp (g.trans (show (0 : Int64) = lN 0 from rfl)))
    rw [bPb_tell_9, if_neg (nI_ge (by omega) (by omega)), bPb_tell_16, if_neg (fun g => r0 ((lg_z (by omega)).mp g)), bPb_tell_23, if_neg z2, pk_lRem (by omega) (by omega) (by omega), nI_1]
    have hh : b % (a % b) < 2 ^ m := by
      have e2 : 2 ^ (m + 1) = 2 ^ m + 2 ^ m := by rw [Nat.pow_succ]; omega
      by_cases g : a % b ≤ 2 ^ m
      · omega
      · have := Nat.mod_eq_sub_mod (show a % b ≤ b by omega)
        rw [this]
        have := Nat.mod_le (b - a % b) (a % b)
        omega
    refine Pb_tell_loop m (a % b) (b % (a % b)) (i + 1 + 1) _ _ (by omega) hh (by omega) (by omega) (fun a9 v10 v11 => ?_)
    rw [gcd_mod, gcd_mod]
    exact hQ a9 v10 v11
theorem Mo_frac_loop {E : mEn} {d : Nat} {Q : mPost} {σ : mSt} {x y : Int64} : ∀ (m a b : Nat) (u9 u10 : Value), a < 2 ^ 31 → b ≤ m → b < 2 ^ 31 →
    (∀ (v9 v10 : Value), WP E d mMo_fraction 34 [.ref 166, .long x, uu, .long y, uu, .long (lN (Nat.gcd b a)), uu, .long 0, uu, v9, v10] [] σ Q) → WP E d mMo_fraction 9 [.ref 166, .long x, uu, .long y, uu, .long (lN a), uu, .long (lN b), uu, u9, u10] [] σ Q
  | 0, a, b, u9, u10, ha, hb, hb2, hQ => by
    have b0 : b = 0 := by omega
    subst b0
    rw [bMo_fraction_9, if_pos ((lg_z (by omega)).mpr rfl)]
    have := hQ u9 u10
    rw [Nat.gcd_zero_left] at this
    exact this
  | m + 1, a, b, u9, u10, ha, hb, hb2, hQ => by
    by_cases b0 : b = 0
    · subst b0
      rw [bMo_fraction_9, if_pos ((lg_z (by omega)).mpr rfl)]
      have := hQ u9 u10
      rw [Nat.gcd_zero_left] at this
      exact this
    have r1 := Nat.mod_lt a (show 0 < b by omega)
    have z1 : ¬ lN b = 0 := fun g => b0 ((pk_lEQ (by omega) (by omega)).mp (g.trans (show (0 : Int64) = lN 0 from rfl)))
    rw [bMo_fraction_9, if_neg (fun g => b0 ((lg_z hb2).mp g)), bMo_fraction_16, if_neg z1, pk_lRem (by omega) (by omega) (by omega)]
    refine Mo_frac_loop m b (a % b) _ _ (by omega) (by omega) (by omega) (fun v9 v10 => ?_)
    rw [gcd_mod]
    exact hQ v9 v10
theorem Pb_tell {E : mEn} {d : Nat} {Q : mPost} {σ : mSt} {n b : Nat} {u5 u6 u7 u8 u9 u10 u11 : Value} (hn : n < 2 ^ 31) (h0 : 0 < b) (hb : b < 2 ^ 20) (k : Q none (sL (sL σ 0 11 (lN n / lN (Nat.gcd b n))) 0 12 (lN b / lN (Nat.gcd b n)))) : WP E d mPb_tell 0 [.ref 0, .long (lN n), uu, .long (lN b), uu, u5, u6, u7, u8, u9, u10, u11] [] σ Q := by
  have g0 : 0 < Nat.gcd b n := Nat.gcd_pos_of_pos_left _ h0
  have g1 : Nat.gcd b n ≤ b := Nat.gcd_le_left _ h0
  have z1 : ¬ lN (Nat.gcd b n) = 0 := fun g => by have := (pk_lEQ (by omega) (by omega)).mp (g.trans (show (0 : Int64) = lN 0 from rfl)); omega
  rw [bPb_tell_0, show (0 : Int32) = nI 0 from rfl]
  refine Pb_tell_loop 20 n b 0 _ _ hn hb (by omega) (by omega) (fun a9 v10 v11 => ?_)
  rw [bPb_tell_44, if_pos (by rw [lg_gt]; exact lN_g0 g0 (by omega)), bPb_tell_52, if_neg z1, if_neg z1]
  exact k
theorem absN {n : Nat} (h : n < 2 ^ 31) : (if 0 < lN n then lN n else -lN n) = lN n := by
  by_cases e : n = 0
  · subst e; rfl
  · rw [if_pos (lN_g0 (by omega) (by omega))]
theorem Mo_fraction {E : mEn} {d : Nat} {Q : mPost} {σ : mSt} {n b : Nat} {u5 u6 u7 u8 u9 u10 : Value} (hn : n < 2 ^ 31) (h0 : 0 < b) (hb : b < 2 ^ 20) (k : Q (some (.int 1)) (sL (sL σ 166 2 (lN n / lN (Nat.gcd b n))) 166 3 (lN b / lN (Nat.gcd b n)))) : WP E d mMo_fraction 0 [.ref 166, .long (lN n), uu, .long (lN b), uu, u5, u6, u7, u8, u9, u10] [] σ Q := by
  have g0 : 0 < Nat.gcd b n := Nat.gcd_pos_of_pos_left _ h0
  have g1 : Nat.gcd b n ≤ b := Nat.gcd_le_left _ h0
  have z1 : ¬ lN (Nat.gcd b n) = 0 := fun g => by have := (pk_lEQ (by omega) (by omega)).mp (g.trans (show (0 : Int64) = lN 0 from rfl)); omega
  rw [bMo_fraction_0, absN hn]
  refine Mo_frac_loop b n b _ _ hn (Nat.le_refl _) (by omega) (fun v9 v10 => ?_)
  rw [bMo_fraction_34, if_neg z1, if_neg z1]
  exact k
theorem Tw_rainOn {E : mEn} {d : Nat} {σ : mSt} {Q : mPost} {t l o np no nl nk dy : Nat} {c : Nat → Int32} {w : Nat → Int64} {u : Value} (ht : isT t) (hT : TRel σ t c w np no nl nk dy) (hl : l < nl) (ho : o < no) (eo : c (42 + l) = nI o) : WP E (d + 1) mTw_rainOn 0 [.ref t, .int (nI l), u] [] σ Q = Q (some (.int (c (30 + o)))) σ := by
  obtain ⟨⟨b1, b2, b3, b4, b5⟩, ⟨t1, c1⟩, ⟨t2, c2⟩, ⟨t3, c3⟩, ⟨t4, c4⟩, ⟨t5, c5⟩, c6, gP, gO, gL, gB, gK, -⟩ := id hT
  rw [bTw_rainOn_0 ht, Tw_hasLoaf ht t3 b3, tl_s, bTw_rainOn_5 ht, b2i_t (mOut_f hl (by omega)), if_neg i10, bTw_rainOn_8 ht, mOut_f (by omega) (by omega), nI_clamp (by omega), if_neg (by decide), (gL l hl).2.1.1, eo, bTw_rainOn_18 ht, if_neg (nI_pos (by omega)), bTw_rainOn_23 ht, if_neg (nI_ge (by omega) (by omega)), bTw_rainOn_28 ht, mOut_f (by omega) (by omega), nI_clamp (by omega), if_neg (by decide), (gO o ho).1, bTw_rainOn_38 ht]
theorem nI_toI {x : Int32} {B : Nat} (h1 : 0 ≤ x.toInt) (h2 : x.toInt ≤ B) : ∃ n, n ≤ B ∧ x = nI n := by
  obtain ⟨j, hj, rfl⟩ := nI_of (x := x) (by rw [Int32.not_lt, Int32.le_iff_toInt_le]; exact h1)
  rw [nI_toInt hj] at h2
  exact ⟨j, by omega, rfl⟩
theorem gF_n {σ : mSt} {t l np no nl nk dy : Nat} {c : Nat → Int32} {w : Nat → Int64} {wet : Int32} (hT : TRel σ t c w np no nl nk dy) (hl : l < nl) (p : Nat) : ∃ n, n ≤ 99 ∧ gF c l p np nk wet = nI n := nI_toI (gF_b hT hl p).1 (gF_b hT hl p).2
theorem P_mean {E : mEn} {d : Nat} {σ : mSt} {a b w : Int32} {u1 u2 u3 u4 u5 u6 : Value} (hI : Inv σ) : pairI E (d + 7) mPb_mean mMo_mean [.ref 0, .int a, .int b, .int w, u1, u2, u3] [.ref 166, .int a, .int b, .int w, u4, u5, u6] σ := by
  obtain ⟨np, no, nl, nk, dy, hT⟩ := Inv_town hI
  obtain ⟨⟨b1, b2, b3, b4, b5⟩, ⟨t1, c1⟩, ⟨t2, c2⟩, ⟨t3, c3⟩, ⟨t4, c4⟩, ⟨t5, c5⟩, c6, gP, gO, gL, gB, gK, -⟩ := id hT
  have hq : ∀ τ : mSt, qt SQ σ τ → (sI (sI τ 166 1 0) 166 0 0).1 171 = σ.1 171 := fun τ q => funext fun k => (q 171 k rfl).1
  have mp := @mpq E σ np c1 b1
  have ml := @mlq E σ nl c3 b3
  have mk := @mkq E σ nk c4 b4
  by_cases ha : mOut a np = false
  rotate_left
  · refine pairI_q hI 0 (nI 2) (fun Q k => ?_) (fun τ q Q k => ?_)
    · simp only [bPb_mean_0, bPb_mean_8, bPb_mean_11, bPb_mean_19, bPb_mean_22, bPb_mean_27, bPb_mean_28, bPb_mean_32, bPb_mean_37, bPb_mean_42, bPb_mean_43, bPb_mean_51, bPb_mean_54, bPb_mean_62, bPb_mean_65, bPb_mean_71, bPb_mean_72, bPb_mean_80, bPb_mean_91, bPb_mean_104, bPb_mean_124, bPb_mean_129, bPb_mean_135, bPb_mean_136, bPb_mean_145, bPb_mean_154, bPb_mean_157, bPb_mean_160, bPb_mean_164, Tw_hasPerson T10 t1 b1, Tw_hasLoaf T10 t3 b3, Pr_has T10 t4 b4, tl_s, bPb_deny_0, b2i_f ha, b2i_T, b2i_F, i10, not_true_eq_false, not_false_eq_true, and_self, and_true, true_and, and_false, false_and, or_true, true_or, or_false, false_or, or_self, if_true, if_false, ite_self, eq_self, Bool.false_eq_true, Bool.true_eq_false]
      exact k _ (by repeat' (first | exact qt_rf | assumption | refine qt_sI ?_ rfl | refine qt_sL ?_ rfl)) rfl
    · simp only [bMo_mean_0, bMo_mean_15, bMo_mean_18, bMo_mean_23, bMo_mean_26, bMo_mean_31, bMo_mean_32, bMo_mean_39, bMo_mean_42, bMo_mean_47, bMo_mean_48, bMo_mean_53, bMo_mean_56, bMo_mean_61, bMo_mean_64, bMo_mean_70, bMo_mean_71, bMo_mean_76, bMo_mean_82, bMo_mean_85, bMo_mean_91, bMo_mean_92, bMo_mean_120, bMo_mean_133, bMo_mean_145, bMo_mean_151, bMo_mean_159, bMo_mean_161, bMo_mean_164, mp τ q, ml τ q, mk τ q, tl_s, bMo_no_0, b2i_f ha, b2i_T, b2i_F, i10, not_true_eq_false, not_false_eq_true, and_self, and_true, true_and, and_false, false_and, or_true, true_or, or_false, false_or, or_self, if_true, if_false, ite_self, eq_self, Bool.false_eq_true, Bool.true_eq_false]
      exact k _ (by repeat' (first | exact qt_rf | assumption | refine qt_sI ?_ rfl | refine qt_sL ?_ rfl)) rfl rfl
  by_cases hb : mOut b nl = false
  rotate_left
  · refine pairI_q hI 0 (nI 2) (fun Q k => ?_) (fun τ q Q k => ?_)
    · simp only [bPb_mean_0, bPb_mean_8, bPb_mean_11, bPb_mean_19, bPb_mean_22, bPb_mean_27, bPb_mean_28, bPb_mean_32, bPb_mean_37, bPb_mean_42, bPb_mean_43, bPb_mean_51, bPb_mean_54, bPb_mean_62, bPb_mean_65, bPb_mean_71, bPb_mean_72, bPb_mean_80, bPb_mean_91, bPb_mean_104, bPb_mean_124, bPb_mean_129, bPb_mean_135, bPb_mean_136, bPb_mean_145, bPb_mean_154, bPb_mean_157, bPb_mean_160, bPb_mean_164, Tw_hasPerson T10 t1 b1, Tw_hasLoaf T10 t3 b3, Pr_has T10 t4 b4, tl_s, bPb_deny_0, b2i_t ha, b2i_f hb, b2i_T, b2i_F, i10, not_true_eq_false, not_false_eq_true, and_self, and_true, true_and, and_false, false_and, or_true, true_or, or_false, false_or, or_self, if_true, if_false, ite_self, eq_self, Bool.false_eq_true, Bool.true_eq_false]
      exact k _ (by repeat' (first | exact qt_rf | assumption | refine qt_sI ?_ rfl | refine qt_sL ?_ rfl)) rfl
    · simp only [bMo_mean_0, bMo_mean_15, bMo_mean_18, bMo_mean_23, bMo_mean_26, bMo_mean_31, bMo_mean_32, bMo_mean_39, bMo_mean_42, bMo_mean_47, bMo_mean_48, bMo_mean_53, bMo_mean_56, bMo_mean_61, bMo_mean_64, bMo_mean_70, bMo_mean_71, bMo_mean_76, bMo_mean_82, bMo_mean_85, bMo_mean_91, bMo_mean_92, bMo_mean_120, bMo_mean_133, bMo_mean_145, bMo_mean_151, bMo_mean_159, bMo_mean_161, bMo_mean_164, mp τ q, ml τ q, mk τ q, tl_s, bMo_no_0, b2i_t ha, b2i_f hb, b2i_T, b2i_F, i10, not_true_eq_false, not_false_eq_true, and_self, and_true, true_and, and_false, false_and, or_true, true_or, or_false, false_or, or_self, if_true, if_false, ite_self, eq_self, Bool.false_eq_true, Bool.true_eq_false]
      exact k _ (by repeat' (first | exact qt_rf | assumption | refine qt_sI ?_ rfl | refine qt_sL ?_ rfl)) rfl rfl
  have ha' := ha
  have hb' := hb
  obtain ⟨p, hp, rfl⟩ := mOut_n ha
  obtain ⟨l, hl, rfl⟩ := mOut_n hb
  rcases sw_cs w 0 1 with ⟨i, -, hi, rfl⟩ | hne
  rotate_left
  · refine pairI_q hI 0 (nI 5) (fun Q k => ?_) (fun τ q Q k => ?_)
    · simp only [bPb_mean_0, bPb_mean_8, bPb_mean_11, bPb_mean_19, Tw_hasPerson T10 t1 b1, Tw_hasLoaf T10 t3 b3, Pr_has T10 t4 b4, tl_s, b2i_t ha', b2i_t hb', b2i_T, b2i_F, i10, not_true_eq_false, not_false_eq_true, and_self, and_true, true_and, and_false, false_and, or_true, true_or, or_false, false_or, or_self, if_true, if_false, ite_self, eq_self, Bool.false_eq_true, Bool.true_eq_false]
      rw [bPb_mean_28, bPb_mean_32, show (0 : Int32) = nI 0 from rfl, show (1 : Int32) = nI 1 from rfl, out5 (lo := 0) (hi := 1) (by omega) (by omega) hne, bPb_mean_37, bPb_deny_0, tl_s, bPb_mean_42 (Or.inl rfl)]
      exact k _ (by repeat' (first | exact qt_rf | assumption | refine qt_sI ?_ rfl | refine qt_sL ?_ rfl)) rfl
    · simp only [bMo_mean_0, bMo_mean_15, bMo_mean_18, bMo_mean_23, mp τ q, ml τ q, mk τ q, tl_s, b2i_t ha', b2i_t hb', b2i_T, b2i_F, i10, not_true_eq_false, not_false_eq_true, and_self, and_true, true_and, and_false, false_and, or_true, true_or, or_false, false_or, or_self, if_true, if_false, ite_self, eq_self, Bool.false_eq_true, Bool.true_eq_false]
      rw [bMo_mean_32, Mo_isIn, tl_s, bMo_mean_39, b2i_f (isIn_f (l6 := 0) (h6 := 1) (lo := 0) (hi := 1) rfl rfl (by omega) (by omega) hne), ite_nn rfl, bMo_mean_42, bMo_no_0, tl_s, bMo_mean_47 (Or.inl rfl)]
      exact k _ (by repeat' (first | exact qt_rf | assumption | refine qt_sI ?_ rfl | refine qt_sL ?_ rfl)) rfl rfl
  have w1 : ¬ nI i < 0 := nI_pos (by omega)
  have w2 : nI i ≤ (1 : Int32) := nI_le (b := 1) hi (by omega)
  have wi : ¬ (nI i).toInt64 < 0 ∧ ¬ 1 < (nI i).toInt64 := isIn_t (lo := 0) (hi := 1) rfl rfl (by omega) (Nat.zero_le i) hi
  have iP := fun (d : Nat) (Q : mPost) => Tw_isPaper (E := E) (d := d) (σ := σ) (Q := Q) T10 t3 b3 hl
  have iB := fun (d : Nat) (Q : mPost) => Tw_isBaked (E := E) (d := d) (σ := σ) (Q := Q) T10 t3 b3 hl (gL l hl)
  have hl8 : l < 8 := by omega
  have jP := fun (d : Nat) (τ : mSt) (Q : mPost) => Mo_isPaper (E := E) (d := d) (σ := τ) (Q := Q) hl8
  have jB := fun (d : Nat) (τ : mSt) (Q : mPost) => Mo_isBaked (E := E) (d := d) (σ := τ) (Q := Q) hl8
  have e1 : σ.1 (10 + 20) l = σ.1 171 (42 + l) := (gL l hl).2.1.1
  by_cases h1 : σ.1 171 (42 + l) < 0
  · refine pairI_q hI 0 (nI 9) (fun Q k => ?_) (fun τ q Q k => ?_)
    · simp only [bPb_mean_0, bPb_mean_8, bPb_mean_11, bPb_mean_19, bPb_mean_22, bPb_mean_27, bPb_mean_28, bPb_mean_32, bPb_mean_37, bPb_mean_42, bPb_mean_43, bPb_mean_51, bPb_mean_54, bPb_mean_62, bPb_mean_65, bPb_mean_71, bPb_mean_72, bPb_mean_80, bPb_mean_91, bPb_mean_104, bPb_mean_124, bPb_mean_129, bPb_mean_135, bPb_mean_136, bPb_mean_145, bPb_mean_154, bPb_mean_157, bPb_mean_160, bPb_mean_164, Tw_hasPerson T10 t1 b1, Tw_hasLoaf T10 t3 b3, Pr_has T10 t4 b4, tl_s, bPb_deny_0, b2i_t ha', b2i_t hb', w1, w2, Mo_isIn, b2i_t wi, iP, jP, e1, h1, b2i_T, b2i_F, i10, not_true_eq_false, not_false_eq_true, and_self, and_true, true_and, and_false, false_and, or_true, true_or, or_false, false_or, or_self, if_true, if_false, ite_self, eq_self, Bool.false_eq_true, Bool.true_eq_false]
      exact k _ (by repeat' (first | exact qt_rf | assumption | refine qt_sI ?_ rfl | refine qt_sL ?_ rfl)) rfl
    · simp only [bMo_mean_0, bMo_mean_15, bMo_mean_18, bMo_mean_23, bMo_mean_26, bMo_mean_31, bMo_mean_32, bMo_mean_39, bMo_mean_42, bMo_mean_47, bMo_mean_48, bMo_mean_53, bMo_mean_56, bMo_mean_61, bMo_mean_64, bMo_mean_70, bMo_mean_71, bMo_mean_76, bMo_mean_82, bMo_mean_85, bMo_mean_91, bMo_mean_92, bMo_mean_120, bMo_mean_133, bMo_mean_145, bMo_mean_151, bMo_mean_159, bMo_mean_161, bMo_mean_164, mp τ q, ml τ q, mk τ q, tl_s, bMo_no_0, b2i_t ha', b2i_t hb', w1, w2, Mo_isIn, b2i_t wi, iP, jP, e1, hq τ q, h1, b2i_T, b2i_F, i10, not_true_eq_false, not_false_eq_true, and_self, and_true, true_and, and_false, false_and, or_true, true_or, or_false, false_or, or_self, if_true, if_false, ite_self, eq_self, Bool.false_eq_true, Bool.true_eq_false]
      exact k _ (by repeat' (first | exact qt_rf | assumption | refine qt_sI ?_ rfl | refine qt_sL ?_ rfl)) rfl rfl
  by_cases h2 : σ.1 171 (74 + l) < 0
  rotate_left
  · refine pairI_q hI 0 (nI 9) (fun Q k => ?_) (fun τ q Q k => ?_)
    · simp only [bPb_mean_0, bPb_mean_8, bPb_mean_11, bPb_mean_19, bPb_mean_22, bPb_mean_27, bPb_mean_28, bPb_mean_32, bPb_mean_37, bPb_mean_42, bPb_mean_43, bPb_mean_51, bPb_mean_54, bPb_mean_62, bPb_mean_65, bPb_mean_71, bPb_mean_72, bPb_mean_80, bPb_mean_91, bPb_mean_104, bPb_mean_124, bPb_mean_129, bPb_mean_135, bPb_mean_136, bPb_mean_145, bPb_mean_154, bPb_mean_157, bPb_mean_160, bPb_mean_164, Tw_hasPerson T10 t1 b1, Tw_hasLoaf T10 t3 b3, Pr_has T10 t4 b4, tl_s, bPb_deny_0, b2i_t ha', b2i_t hb', w1, w2, Mo_isIn, b2i_t wi, iP, jP, iB, jB, e1, h1, h2, b2i_T, b2i_F, i10, not_true_eq_false, not_false_eq_true, and_self, and_true, true_and, and_false, false_and, or_true, true_or, or_false, false_or, or_self, if_true, if_false, ite_self, eq_self, Bool.false_eq_true, Bool.true_eq_false]
      exact k _ (by repeat' (first | exact qt_rf | assumption | refine qt_sI ?_ rfl | refine qt_sL ?_ rfl)) rfl
    · simp only [bMo_mean_0, bMo_mean_15, bMo_mean_18, bMo_mean_23, bMo_mean_26, bMo_mean_31, bMo_mean_32, bMo_mean_39, bMo_mean_42, bMo_mean_47, bMo_mean_48, bMo_mean_53, bMo_mean_56, bMo_mean_61, bMo_mean_64, bMo_mean_70, bMo_mean_71, bMo_mean_76, bMo_mean_82, bMo_mean_85, bMo_mean_91, bMo_mean_92, bMo_mean_120, bMo_mean_133, bMo_mean_145, bMo_mean_151, bMo_mean_159, bMo_mean_161, bMo_mean_164, mp τ q, ml τ q, mk τ q, tl_s, bMo_no_0, b2i_t ha', b2i_t hb', w1, w2, Mo_isIn, b2i_t wi, iP, jP, iB, jB, e1, hq τ q, h1, h2, b2i_T, b2i_F, i10, not_true_eq_false, not_false_eq_true, and_self, and_true, true_and, and_false, false_and, or_true, true_or, or_false, false_or, or_self, if_true, if_false, ite_self, eq_self, Bool.false_eq_true, Bool.true_eq_false]
      exact k _ (by repeat' (first | exact qt_rf | assumption | refine qt_sI ?_ rfl | refine qt_sL ?_ rfl)) rfl rfl
  obtain ⟨o, ho, eo⟩ : ∃ k, k < no ∧ σ.1 171 (42 + l) = nI k := (gL l hl).2.1.2.resolve_left (fun g => h1 (by rw [g]; decide))
  obtain ⟨r, hr, er⟩ := (gO o ho).2
  obtain ⟨G1, hG1, eG1⟩ := gF_n (wet := 1) hT hl p
  obtain ⟨G0, hG0, eG0⟩ := gF_n (wet := 0) hT hl p
  have hB := TRel_hb hT hl p
  have mb1 : r * G1 ≤ 16 * 99 := Nat.mul_le_mul hr hG1
  have mb0 : (16 - r) * G0 ≤ 16 * 99 := Nat.mul_le_mul (by omega) hG0
  have eS : nI r * nI G1 + (nI 16 - nI r) * nI G0 = nI (r * G1 + (16 - r) * G0) := by rw [pk_mul, pk_sub hr, pk_mul, nI_add]
  -- up to the fraction
  have XC : ∀ Q : mPost, (∀ τ, qt SQ σ τ → τ.1 62 p = hF (σ.1 171) l p nk → WP E (d + 7) mPb_mean 104 [.ref 0, .int (nI p), .int (nI l), .int (nI i), .int (nI r), u2, u3] [.int (nI G0), .int (nI 16 - nI r), .int (nI r * nI G1)] τ Q) → WP E (d + 7) mPb_mean 0 [.ref 0, .int (nI p), .int (nI l), .int (nI i), u1, u2, u3] [] σ Q := fun Q k => by
    simp only [bPb_mean_0, bPb_mean_8, bPb_mean_11, bPb_mean_19, bPb_mean_28, bPb_mean_32, bPb_mean_43, bPb_mean_51, bPb_mean_54, bPb_mean_62, w1, w2, iP, iB, e1, h1, h2, Tw_hasPerson T10 t1 b1, Tw_hasLoaf T10 t3 b3, Pr_has T10 t4 b4, tl_s, b2i_t ha', b2i_t hb', b2i_T, b2i_F, i10, not_true_eq_false, not_false_eq_true, and_self, and_true, true_and, and_false, false_and, or_true, true_or, or_false, false_or, or_self, if_true, if_false, ite_self, eq_self, Bool.false_eq_true, Bool.true_eq_false]
    rw [bPb_mean_72, Tw_rainOn T10 hT hl ho eo, tl_s, er, bPb_mean_80]
    refine Pb_wouldGet hT hl hp (fun υ q g => ?_)
    have hT' : TRel υ 10 (σ.1 171) (σ.2 173) np no nl nk dy := TRel_q q (fun j k hj _ _ => SH_T H61 T10 hj) hT
    rw [tl_s, bPb_mean_91, eG1]
    refine Pb_wouldGet hT' hl hp (fun ω q2 g2 => ?_)
    rw [tl_s, eG0]
    exact k ω (qt_mono (qt_tr q q2) (fun o k => SH_SQ)) (g2.1 p (by omega)).1
  have XM : ∀ (τ : mSt) (Q : mPost), τ.1 171 = σ.1 171 → (∀ υ, qt SQ τ υ → υ.1 166 0 = 0 → υ.1 0 10 = τ.1 0 10 → υ.1 171 = σ.1 171 → WP E (d + 7) mMo_mean 133 [.ref 166, .int (nI p), .int (nI l), .int (nI i), .int (nI r), u5, u6] [.int (nI G0), .int (nI 16 - nI r), .int (nI r * nI G1)] υ Q) → WP E (d + 7) mMo_mean 92 [.ref 166, .int (nI p), .int (nI l), .int (nI i), u4, u5, u6] [] (sI (sI τ 166 1 0) 166 0 0) Q := fun τ Q hc k => by
    have hc' : (sI (sI τ 166 1 0) 166 0 0).1 171 = σ.1 171 := hc
    rw [bMo_mean_92, nI_add, mOut_f (by omega) (by omega), nI_clamp (by omega), hc', eo, nI_add, mOut_f (by omega) (by omega), nI_clamp (by omega), er, if_neg (by decide), if_neg (by decide)]
    refine Mo_getsOf (σ := sI (sI τ 166 1 0) 166 0 0) hl8 hp (by rw [hc']; exact c1) b1 (by rw [hc']; exact c4) b4 (fun υ q => ?_)
    have hc2 : υ.1 171 = σ.1 171 := (funext fun k => (q 171 k rfl).1).trans hc'
    rw [tl_s, bMo_mean_120, hc', eG1]
    refine Mo_getsOf hl8 hp (by rw [hc2]; exact c1) b1 (by rw [hc2]; exact c4) b4 (fun ω q2 => ?_)
    rw [tl_s, hc2, eG0]
    exact k ω (qt_tr (τ := sI (sI τ 166 1 0) 166 0 0) (by repeat' (first | exact qt_rf | assumption | refine qt_sI ?_ rfl | refine qt_sL ?_ rfl)) (qt_mono (qt_tr q q2) (fun o k => SDl_SQ))) (((q2 166 0 rfl).1).trans (q 166 0 rfl).1) (((q2 0 10 rfl).1).trans (q 0 10 rfl).1) ((funext fun k => (q2 171 k rfl).1).trans hc2)
  have YM : ∀ (τ : mSt) (Q : mPost), τ.1 171 = σ.1 171 → WP E (d + 7) mMo_mean 0 [.ref 166, .int (nI p), .int (nI l), .int (nI i), u4, u5, u6] [] τ Q = WP E (d + 7) mMo_mean 71 [.ref 166, .int (nI p), .int (nI l), .int (nI i), u4, u5, u6] [] (sI (sI τ 166 1 0) 166 0 0) Q := fun τ Q hc => by
    have hc' : (sI (sI τ 166 1 0) 166 0 0).1 171 = σ.1 171 := hc
    have m1 := fun (Q : mPost) => Mo_isPersonAt (E := E) (d := d + 5) (σ := sI (sI τ 166 1 0) 166 0 0) (a := nI p) (Q := Q) (np := np) (by rw [hc']; exact c1) b1
    have m2 := fun (Q : mPost) => Mo_isLoafAt (E := E) (d := d + 5) (σ := sI (sI τ 166 1 0) 166 0 0) (a := nI l) (Q := Q) (nl := nl) (by rw [hc']; exact c3) b3
    simp only [bMo_mean_0, bMo_mean_15, bMo_mean_18, bMo_mean_23, bMo_mean_32, bMo_mean_39, bMo_mean_48, bMo_mean_53, bMo_mean_56, bMo_mean_61, m1, m2, tl_s, b2i_t ha', b2i_t hb', Mo_isIn, b2i_t wi, jP, jB, hc', h1, h2, b2i_T, b2i_F, i10, not_true_eq_false, not_false_eq_true, and_self, and_true, true_and, and_false, false_and, or_true, true_or, or_false, false_or, or_self, if_true, if_false, ite_self, eq_self, Bool.false_eq_true, Bool.true_eq_false]
  have fin : ∀ (b : Nat), 0 < b → b < 2 ^ 20 → (∀ (τ : mSt) (Q : mPost), τ.1 62 p = hF (σ.1 171) l p nk → WP E (d + 7) mPb_mean 104 [.ref 0, .int (nI p), .int (nI l), .int (nI i), .int (nI r), u2, u3] [.int (nI G0), .int (nI 16 - nI r), .int (nI r * nI G1)] τ Q = WP E (d + 7) mPb_mean 157 [.ref 0, .int (nI p), .int (nI l), .int (nI i), .int (nI r), .int (nI (r * G1 + (16 - r) * G0)), .int (hF (σ.1 171) l p nk)] [.long (lN b), .long (lN (r * G1 + (16 - r) * G0)), .ref 0] τ Q) →
      (∀ (τ : mSt) (Q : mPost), τ.1 171 = σ.1 171 → WP E (d + 7) mMo_mean 71 [.ref 166, .int (nI p), .int (nI l), .int (nI i), u4, u5, u6] [] τ Q = WP E (d + 7) mMo_mean 92 [.ref 166, .int (nI p), .int (nI l), .int (nI i), u4, u5, u6] [] τ Q) →
      (∀ (τ : mSt) (Q : mPost), τ.1 171 = σ.1 171 → WP E (d + 7) mMo_mean 133 [.ref 166, .int (nI p), .int (nI l), .int (nI i), .int (nI r), u5, u6] [.int (nI G0), .int (nI 16 - nI r), .int (nI r * nI G1)] τ Q = WP E (d + 7) mMo_mean 161 [.ref 166, .int (nI p), .int (nI l), .int (nI i), .int (nI r), .long (lN (r * G1 + (16 - r) * G0)), uu] [.long (lN b), .long (lN (r * G1 + (16 - r) * G0)), .ref 166] τ Q) →
      pairI E (d + 7) mPb_mean mMo_mean [.ref 0, .int (nI p), .int (nI l), .int (nI i), u1, u2, u3] [.ref 166, .int (nI p), .int (nI l), .int (nI i), u4, u5, u6] σ := fun b hb0 hb1 f1 f2 f3 => by
    refine pairI_f hI (lN (r * G1 + (16 - r) * G0) / lN (Nat.gcd b (r * G1 + (16 - r) * G0))) (lN b / lN (Nat.gcd b (r * G1 + (16 - r) * G0))) (fun Q k => ?_) (fun τ hc Q k => ?_)
    · refine XC Q (fun τ q g => ?_)
      rw [f1 τ Q g, bPb_mean_157]
      refine Pb_tell (by omega) hb0 hb1 ?_
      rw [tl_n, bPb_mean_160, bPb_grant_0, tl_s, bPb_mean_164 (Or.inr rfl)]
      exact k τ q
    · rw [YM τ Q hc, f2 (sI (sI τ 166 1 0) 166 0 0) Q hc]
      refine XM τ Q hc (fun υ q g1 g2 g3 => ?_)
      rw [f3 υ Q g3, bMo_mean_161]
      refine Mo_fraction (by omega) hb0 hb1 ?_
      rw [tl_s, bMo_mean_164 (Or.inr rfl)]
      exact k υ q g1 g2
  match i, hi with
  | 0, _ =>
    refine fin 16 (by omega) (by omega) (fun τ Q g => ?_) (fun τ Q g => ?_) (fun τ Q g => ?_)
    · rw [bPb_mean_104, mOut_f (by omega) (by omega), nI_clamp (by omega), g, eS, if_neg (by decide), if_pos (by decide), bPb_mean_136, if_pos (by decide), bPb_mean_154, nI_l (by omega)]; rfl
    · rw [bMo_mean_71, if_pos (by decide)]
    · rw [bMo_mean_133, eS, if_neg (by decide), bMo_mean_145, nI_l (by omega)]; rfl
  | 1, _ =>
    by_cases hH : 0 < hF (σ.1 171) l p nk
    · have z := Int32.lt_iff_toInt_lt.mp hH
      have z0 : (0 : Int32).toInt = 0 := rfl
      obtain ⟨H, hH1, eH⟩ := nI_toI (x := hF (σ.1 171) l p nk) (B := 4059) (by omega) (by omega)
      have H0 : 0 < H := by
        rcases Nat.eq_zero_or_pos H with g | g
        · rw [eH, g] at hH; exact absurd hH (by decide)
        · exact g
      refine fin (16 * H) (by omega) (by omega) (fun τ Q g => ?_) (fun τ Q g => ?_) (fun τ Q g => ?_)
      · rw [bPb_mean_104, mOut_f (by omega) (by omega), nI_clamp (by omega), g, eS, if_neg (by decide), if_neg (by decide), bPb_mean_124, if_pos hH, bPb_mean_136, if_neg (by decide), bPb_mean_145, eH, pk_mul, nI_l (by omega), nI_l (by omega)]
      · rw [bMo_mean_71, if_neg (by decide), bMo_mean_76, Mo_holdsOf hl8 (show p < 8 by omega) (by rw [g]; exact c4) b4, tl_s, bMo_mean_82, g, if_pos hH]
      · rw [bMo_mean_133, eS, if_pos (by decide), bMo_mean_151, Mo_holdsOf hl8 (show p < 8 by omega) (by rw [g]; exact c4) b4, tl_s, bMo_mean_159, g, eH, pk_mul, nI_l (by omega), nI_l (by omega)]
    · refine pairI_q hI 0 (nI 8) (fun Q k => ?_) (fun τ q Q k => ?_)
      · refine XC Q (fun τ q g => ?_)
        rw [bPb_mean_104, mOut_f (by omega) (by omega), nI_clamp (by omega), g, if_neg (by decide), if_neg (by decide), bPb_mean_124, if_neg hH, bPb_mean_129, bPb_deny_0, tl_s, bPb_mean_135 (Or.inl rfl)]
        exact k _ (qt_sI q rfl) rfl
      · have hc' := hq τ q
        rw [YM τ Q hc', bMo_mean_71, if_neg (by decide), bMo_mean_76, Mo_holdsOf hl8 (show p < 8 by omega) (by rw [hc']; exact c4) b4, tl_s, bMo_mean_82, hc', if_neg hH, bMo_mean_85, bMo_no_0, tl_s, bMo_mean_91 (Or.inl rfl)]
        exact k _ (by repeat' (first | exact qt_rf | assumption | refine qt_sI ?_ rfl | refine qt_sL ?_ rfl)) rfl rfl
