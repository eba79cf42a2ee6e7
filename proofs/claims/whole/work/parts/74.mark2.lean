/-! mark, back -/
theorem w_qald {E : mEn} {d : Nat} {M : mM} {Q : mPost} {i : Nat} {ls st : List Value} {σ : mSt} {a n r : Nat} {j : Int32} {fl : List Nat} (hd : decode (mC M) i = .ok (.aaload, 1)) (h : mS0[a]? = some (4, n, fl)) (h2 : mOut j n = false) (h3 : fl[j.toNatClampNeg]? = some r) : WP E d M i ls (.int j :: .ref a :: st) σ Q = WP E d M (i + 1) ls (.ref r :: st) σ Q := w_nx hd (by simp only [stpI, doQld, if_true, h, h2, h3, Bool.false_eq_true, if_false]; rfl)
theorem TRel_x {σ : mSt} {t : Nat} {c c' : Nat → Int32} {w w' : Nat → Int64} {np no nl nk dy : Nat} (h : TRel σ t c w np no nl nk dy) (h1 : ∀ i, i < 600 → c' i = c i) (h2 : ∀ k, k < 20 → w' k = w k) : TRel σ t c' w' np no nl nk dy := by
  obtain ⟨⟨b1, b2, b3, b4, b5⟩, ⟨t1, c1⟩, ⟨t2, c2⟩, ⟨t3, c3⟩, ⟨t4, c4⟩, ⟨t5, c5⟩, c6, gP, gO, gL, gB, gK, -⟩ := id h
  refine TRel_c h b4 b5 ⟨rfl, rfl, rfl⟩ ⟨h1 _ (by omega), h1 _ (by omega), h1 _ (by omega)⟩ ⟨t4, (h1 _ (by omega)).trans c4⟩ ⟨t5, (h1 _ (by omega)).trans c5⟩ (by rw [h1 5 (by omega)]; exact c6) (fun p hp => ?_) (fun k hk => ⟨rfl, h1 _ (by omega)⟩) (fun l hl => LRel_c (gL l hl) (fun _ _ _ => rfl) Iff.rfl (fun i i1 i2 _ => h1 i (by omega)) (by omega)) gB (fun k hk => PRel_c (gK k hk) (fun _ _ _ => rfl) (fun j hj => h1 _ (by omega))) (fun k hk => ⟨rfl, h2 k hk⟩) (fun _ _ _ => rfl) (fun _ _ => rfl) (fun i i1 i2 => h1 i i2)
  rw [h1 (6 + p) (by omega), h1 (14 + p) (by omega), h1 (22 + p) (by omega)]
  exact gP p hp
theorem Mo_copy_1 {E : mEn} {d : Nat} {Q : mPost} {a b : Nat} {c : Nat → Int32} (ha : a ≤ 4) (hb : b ≤ 4) (hne : a ≠ b) : ∀ (j k : Nat) (τ : mSt), k + j = 600 → τ.1 171 = va_cpy c c (600 * a) (600 * b) k → (∀ υ a3, qt (fun o _ => o == 171) τ υ → υ.1 171 = va_cpy c c (600 * a) (600 * b) 600 → WP E d mMo_copy 39 [.ref 166, .int (nI a), .int (nI b), .int a3] [] υ Q) → WP E d mMo_copy 2 [.ref 166, .int (nI a), .int (nI b), .int (nI k)] [] τ Q
  | 0, k, τ, e, h, hQ => by
    have e' : k = 600 := by omega
    subst e'
    rw [bMo_copy_2, if_pos (Int32.le_refl _)]
    exact hQ τ _ qt_rf h
  | j + 1, k, τ, e, h, hQ => by
    rw [bMo_copy_2, if_neg (nI_ge (by omega) (by omega)), bMo_copy_9, pk_mul, pk_mul, nI_add, nI_add, nI_1, mOut_f (n := 600 * a + k) (by omega) (by omega), mOut_f (n := 600 * b + k) (by omega) (by omega), nI_clamp (n := 600 * a + k) (by omega), nI_clamp (n := 600 * b + k) (by omega), if_neg (by decide), if_neg (by decide)]
    refine Mo_copy_1 ha hb hne j (k + 1) _ (by omega) ?_ (fun υ a3 q => hQ υ a3 (qt_tr (qt_sI qt_rf rfl) q))
    rw [sI_u, h]
    exact cpy_s (m := 600) (by omega) (by omega)
theorem Mo_copy_2 {E : mEn} {d : Nat} {Q : mPost} {a b : Nat} {w : Nat → Int64} (ha : a ≤ 4) (hb : b ≤ 4) (hne : a ≠ b) : ∀ (j k : Nat) (τ : mSt), k + j = 20 → τ.2 173 = va_cpy w w (20 * a) (20 * b) k → (∀ υ, qt (fun o _ => o == 173) τ υ → υ.1 = τ.1 → υ.2 173 = va_cpy w w (20 * a) (20 * b) 20 → Q none υ) → WP E d mMo_copy 41 [.ref 166, .int (nI a), .int (nI b), .int (nI k)] [] τ Q
  | 0, k, τ, e, h, hQ => by
    have e' : k = 20 := by omega
    subst e'
    rw [bMo_copy_41, if_pos (Int32.le_refl _), bMo_copy_75]
    exact hQ τ qt_rf rfl h
  | j + 1, k, τ, e, h, hQ => by
    rw [bMo_copy_41, if_neg (nI_ge (by omega) (by omega)), bMo_copy_47, pk_mul, pk_mul, nI_add, nI_add, nI_1, mOut_f (n := 20 * a + k) (by omega) (by omega), mOut_f (n := 20 * b + k) (by omega) (by omega), nI_clamp (n := 20 * a + k) (by omega), nI_clamp (n := 20 * b + k) (by omega), if_neg (by decide), if_neg (by decide)]
    refine Mo_copy_2 ha hb hne j (k + 1) _ (by omega) ?_ (fun υ q e => hQ υ (qt_tr (qt_sL qt_rf rfl) q) e)
    rw [sL_u, h]
    exact cpy_s (m := 20) (by omega) (by omega)
theorem Mo_copy {E : mEn} {d : Nat} {Q : mPost} {σ : mSt} {a b : Nat} {u : Value} (ha : a ≤ 4) (hb : b ≤ 4) (hne : a ≠ b) (hQ : ∀ υ, qt (fun o _ => o == 171 || o == 173) σ υ → υ.1 171 = va_cpy (σ.1 171) (σ.1 171) (600 * a) (600 * b) 600 → υ.2 173 = va_cpy (σ.2 173) (σ.2 173) (20 * a) (20 * b) 20 → Q none υ) : WP E d mMo_copy 0 [.ref 166, .int (nI a), .int (nI b), u] [] σ Q := by
  rw [bMo_copy_0]
  refine Mo_copy_1 (c := σ.1 171) ha hb hne 600 0 σ (by omega) ?_ (fun τ a3 q h => ?_)
  · funext x
    rw [pk_cpy_out (by omega)]
  rw [bMo_copy_39]
  refine Mo_copy_2 (w := σ.2 173) ha hb hne 20 0 τ (by omega) ?_ (fun υ q2 e h2 => ?_)
  · funext x
    rw [pk_cpy_out (by omega), (q 173 x rfl).2]
  exact hQ υ (qt_tr (qt_mono q (fun o k h => by simp only [Bool.or_eq_true]; exact Or.inl h)) (qt_mono q2 (fun o k h => by simp only [Bool.or_eq_true]; exact Or.inr h))) (by rw [e]; exact h) h2
def SMk (o k : Nat) : Bool := SQ o k || ((o == 0 && k == 9) || (o == 166 && k == 23) || (decide (10 ≤ o) && decide (o ≤ 34)) || (decide (91 ≤ o) && decide (o ≤ 165)) || o == 171 || o == 173)
theorem Inv_Mk {σ τ : mSt} (h : Inv σ) (q : qt SMk σ τ) (hs : τ.1 0 10 = τ.1 166 0) (hgs : τ.1 177 0 = 0 ∧ τ.1 178 0 = 0 ∧ RBo τ) (hmk : RMk τ) (htw : isTown τ 10 (τ.1 171) (τ.2 173)) : Inv τ := by
  have e1 : ∀ o k, SMk o k = false → τ.1 o k = σ.1 o k := fun o k g => (q o k g).1
  have e2 : ∀ o k, SMk o k = false → τ.2 o k = σ.2 o k := fun o k g => (q o k g).2
  have f1 : ∀ o, (∀ k, SMk o k = false) → τ.1 o = σ.1 o := fun o g => funext fun k => e1 o k (g k)
  have f2 : ∀ o, (∀ k, SMk o k = false) → τ.2 o = σ.2 o := fun o g => funext fun k => e2 o k (g k)
  obtain ⟨h1, h2, h3, h4, h5, h6, h7, h8, h9, h10, h11⟩ := h
  refine ⟨hs, ?_, ?_, ?_, ?_, ?_, ?_, ?_, ?_, ?_, ?_⟩
  · rw [e2 0 11 rfl, e2 0 12 rfl, e2 166 2 rfl, e2 166 3 rfl]; exact h2
  · rw [e1 0 13 rfl, e1 0 14 rfl, e1 166 10 rfl, e1 166 11 rfl]; exact h3
  · rw [f1 7 (fun _ => rfl), f1 170 (fun _ => rfl), e1 6 2 rfl, e1 166 8 rfl]; exact h4
  · exact hgs
  · unfold RTr; rw [f2 2 (fun _ => rfl), f2 169 (fun _ => rfl), f1 3 (fun _ => rfl), f1 167 (fun _ => rfl), f1 4 (fun _ => rfl), f1 168 (fun _ => rfl)]; exact h6
  · exact hmk
  · unfold RLv; rw [e1 0 15 rfl, e1 166 37 rfl, e1 73 4 rfl, e1 73 5 rfl, e1 73 6 rfl, e1 73 7 rfl, e1 73 8 rfl, f1 183 (fun _ => rfl)]; exact h8
  · unfold RRg; rw [e1 68 4 rfl, e1 166 33 rfl, f1 72 (fun _ => rfl), f1 180 (fun _ => rfl)]; exact h9
  · unfold RKw; rw [f2 8 (fun _ => rfl)]; exact h10
  · exact htw
theorem T_mk {i : Nat} (h : i < 3) : isT (91 + 25 * i) := by
  obtain rfl | rfl | rfl : i = 0 ∨ i = 1 ∨ i = 2 := by omega
  · exact Or.inr (Or.inr (Or.inl rfl))
  · exact Or.inr (Or.inr (Or.inr (Or.inl rfl)))
  · exact Or.inr (Or.inr (Or.inr (Or.inr rfl)))
theorem fl_mk {i : Nat} (h : i < 3) : [91, 116, 141][i]? = some (91 + 25 * i) := by
  obtain rfl | rfl | rfl : i = 0 ∨ i = 1 ∨ i = 2 := by omega
  · rfl
  · rfl
  · rfl
theorem P_mark {E : mEn} {d : Nat} {σ : mSt} (hI : Inv σ) : pairI E (d + 3) mPb_mark mMo_mark [.ref 0] [.ref 166] σ := by
  obtain ⟨np, no, nl, nk, dy, hT⟩ := Inv_town hI
  obtain ⟨⟨b1, b2, b3, b4, b5⟩, ⟨t1, c1⟩, ⟨t2, c2⟩, ⟨t3, c3⟩, ⟨t4, c4⟩, ⟨t5, c5⟩, c6, gP, gO, gL, gB, gK, -⟩ := id hT
  have hq : ∀ τ : mSt, qt SQ σ τ → (sI (sI τ 166 1 0) 166 0 0).1 171 = σ.1 171 := fun τ q => funext fun k => (q 171 k rfl).1
  have mp := @mpq E σ np c1 b1
  have ml := @mlq E σ nl c3 b3
  have mk := @mkq E σ nk c4 b4
  obtain ⟨m, hm, m1, m2, mT⟩ : RMk σ := hI.2.2.2.2.2.2.1
  have hB : RBo σ := hI.2.2.2.2.1.2.2
  by_cases h3 : m < 3
  rotate_left
  · have e3 : m = 3 := by omega
    subst e3
    refine pairI_q hI (-1) (nI 7) (fun Q k => ?_) (fun τ q Q k => ?_)
    · rw [bPb_mark_0, m1, if_neg (by decide), bPb_mark_7, m1, if_neg (by decide), bPb_mark_19, bPb_refuse_0, tl_s, bPb_mark_25]
      exact k _ (by repeat' (first | exact qt_rf | assumption | refine qt_sI ?_ rfl | refine qt_sL ?_ rfl)) rfl
    · rw [bMo_mark_0, show (sI (sI τ 166 1 0) 166 0 0).1 166 23 = nI 3 from ((q 166 23 rfl).1).trans m2, ite_nn rfl, bMo_mark_18, bMo_refuse_0, tl_s, bMo_mark_24]
      exact k _ (by repeat' (first | exact qt_rf | assumption | refine qt_sI ?_ rfl | refine qt_sL ?_ rfl)) rfl rfl
  have hT3 := T_mk h3
  unfold pairI
  rw [bPb_mark_0, m1, if_neg (nI_pos (by omega)), bPb_mark_7, m1, if_pos (nI_lt h3 (by omega)), bPb_mark_26, m1, w_qald (r := 91 + 25 * m) dPb_mark_38 sh_60 (mOut_f h3 (by omega)) (by rw [nI_clamp (by omega)]; exact fl_mk h3), bPb_mark_39 hT3]
  refine Pb_carry hT3 T10 (by omega) hT hB (fun τ q1 q2 q3 => ?_)
  have q1' : ∀ o k, o < 91 + 25 * m ∨ 91 + 25 * m + 25 ≤ o → τ.1 o k = σ.1 o k ∧ τ.2 o k = σ.2 o k := fun o k h => q1 o k (by simp only [STc, Bool.and_eq_false_iff, decide_eq_false_iff_not]; omega)
  have e09 : τ.1 0 9 = nI m := ((q1' 0 9 (by omega)).1).trans m1
  have e23 : τ.1 166 23 = nI m := ((q1' 166 23 (by omega)).1).trans m2
  rw [tl_n, bPb_mark_42, e09, nI_1, sI_e, bPb_answer_0, tl_s, bPb_mark_60]
  refine ⟨nI (m + 1), rfl, ?_⟩
  have n3 : ¬ nI m = nI 3 := fun g => by have := (nI_eq (by omega) (by omega)).mp g; omega
  have r23 : (sI (sI (sI (sI τ 0 9 (nI (m + 1))) 0 10 0) 166 1 0) 166 0 0).1 166 23 = nI m := e23
  rw [bMo_mark_0, r23, if_pos n3, bMo_mark_25, r23, nI_1, sI_e]
  refine Mo_copy (a := 0) (b := m + 1) (by omega) (by omega) (by omega) (fun υ p1 p2 p3 => ?_)
  have p0 : ∀ o k, o ≠ 171 → o ≠ 173 → υ.1 o k = (sI (sI (sI (sI (sI τ 0 9 (nI (m + 1))) 0 10 0) 166 1 0) 166 0 0) 166 23 (nI (m + 1))).1 o k ∧ υ.2 o k = τ.2 o k := fun o k h1 h2 => p1 o k (by simp only [Bool.or_eq_false_iff, beq_eq_false_iff_ne]; exact ⟨h1, h2⟩)
  rw [tl_n, bMo_mark_44, (p0 166 23 (by omega) (by omega)).1]
  refine ⟨rfl, ?_⟩
  have c' : ∀ i, υ.1 171 i = if 600 * (m + 1) ≤ i ∧ i < 600 * (m + 1) + 600 then σ.1 171 (i - 600 * (m + 1)) else σ.1 171 i := fun i => by
    have e171 : (sI (sI (sI (sI (sI τ 0 9 (nI (m + 1))) 0 10 0) 166 1 0) 166 0 0) 166 23 (nI (m + 1))).1 171 = σ.1 171 := funext fun k => (q1' 171 k (by omega)).1
    rw [p2, e171]
    unfold va_cpy
    rw [Nat.mul_zero, Nat.zero_add]
  have w' : ∀ i, υ.2 173 i = if 20 * (m + 1) ≤ i ∧ i < 20 * (m + 1) + 20 then σ.2 173 (i - 20 * (m + 1)) else σ.2 173 i := fun i => by
    have e173 : (sI (sI (sI (sI (sI τ 0 9 (nI (m + 1))) 0 10 0) 166 1 0) 166 0 0) 166 23 (nI (m + 1))).2 173 = σ.2 173 := funext fun k => (q1' 173 k (by omega)).2
    rw [p3, e173]
    unfold va_cpy
    rw [Nat.mul_zero, Nat.zero_add]
  have hυ : ∀ t j k, isT t → j < 25 → υ.1 (t + j) k = τ.1 (t + j) k ∧ υ.2 (t + j) k = τ.2 (t + j) k := fun t j k ht hj => by
    have tl := isT_lt ht
    refine ⟨?_, (p0 _ _ (by omega) (by omega)).2⟩
    rw [(p0 _ _ (by omega) (by omega)).1]
    simp (disch := omega) only [sI_n]
  have Z : qt SMk σ υ := by
    refine qt_tr (τ := sI (sI (sI (sI (sI τ 0 9 (nI (m + 1))) 0 10 0) 166 1 0) 166 0 0) 166 23 (nI (m + 1))) (qt_sI (qt_sI (qt_sI (qt_sI (qt_sI (qt_mono q1 (fun o k h => ?_)) rfl) rfl) rfl) rfl) rfl) (qt_mono p1 (fun o k h => ?_))
    · simp only [STc, Bool.and_eq_true, decide_eq_true_eq] at h
      simp only [SMk, Bool.or_eq_true, Bool.and_eq_true, decide_eq_true_eq]
      right; left; left; right; omega
    · simp only [Bool.or_eq_true] at h
      simp only [SMk, Bool.or_eq_true]
      rcases h with h | h
      · exact Or.inr (Or.inl (Or.inr h))
      · exact Or.inr (Or.inr h)
  refine Inv_Mk hI Z ?_ ⟨?_, ?_, ?_⟩ ?_ ?_
  · rw [(p0 0 10 (by omega) (by omega)).1, (p0 166 0 (by omega) (by omega)).1]; rfl
  · rw [(Z 177 0 rfl).1]; exact hI.2.2.2.2.1.1
  · rw [(Z 178 0 rfl).1]; exact hI.2.2.2.2.1.2.1
  · intro t ht k
    rw [(hυ t 9 k ht (by omega)).1]
    by_cases e : t = 91 + 25 * m
    · subst e; exact q2 k
    · rw [(q1' (t + 9) k (by have := isT_sep ht hT3 e; omega)).1]; exact hB t ht k
  · refine ⟨m + 1, by omega, ?_, ?_, fun i hi => ?_⟩
    · rw [(p0 0 9 (by omega) (by omega)).1]; rfl
    · rw [(p0 166 23 (by omega) (by omega)).1]; rfl
    · by_cases e : i = m
      · subst e
        refine ⟨np, no, nl, nk, dy, TRel_x (c := σ.1 171) (w := σ.2 173) (TRel_q (σ := τ) (τ := υ) (S := fun o _ => ! (decide (91 + 25 * i ≤ o) && decide (o < 91 + 25 * i + 25))) (fun o k h => ?_) (fun j k hj _ _ => ?_) q3) (fun j hj => ?_) (fun j hj => ?_)⟩
        · simp only [Bool.not_eq_false', Bool.and_eq_true, decide_eq_true_eq] at h
          obtain ⟨j, rfl⟩ : ∃ j, o = 91 + 25 * i + j := ⟨o - (91 + 25 * i), by omega⟩
          exact hυ _ j k hT3 (by omega)
        · simp only [Bool.not_eq_false', Bool.and_eq_true, decide_eq_true_eq]; omega
        · rw [c', if_pos (by omega), Nat.add_sub_cancel_left]
        · rw [w', if_pos (by omega), Nat.add_sub_cancel_left]
      · obtain ⟨np', no', nl', nk', dy', g⟩ := mT i (by omega)
        refine ⟨np', no', nl', nk', dy', TRel_x (TRel_q (σ := σ) (τ := υ) (S := fun o _ => ! (decide (91 + 25 * i ≤ o) && decide (o < 91 + 25 * i + 25))) (fun o k h => ?_) (fun j k hj _ _ => ?_) g) (fun j hj => ?_) (fun j hj => ?_)⟩
        · simp only [Bool.not_eq_false', Bool.and_eq_true, decide_eq_true_eq] at h
          obtain ⟨j, rfl⟩ : ∃ j, o = 91 + 25 * i + j := ⟨o - (91 + 25 * i), by omega⟩
          have hh := hυ (91 + 25 * i) j k (T_mk (by omega)) (by omega)
          rw [hh.1, hh.2]
          exact q1' _ _ (by omega)
        · simp only [Bool.not_eq_false', Bool.and_eq_true, decide_eq_true_eq]; omega
        · rw [c', if_neg (by omega)]
        · rw [w', if_neg (by omega)]
  · refine ⟨np, no, nl, nk, dy, TRel_x (c := σ.1 171) (w := σ.2 173) (TRel_q (σ := σ) (τ := υ) (S := fun o _ => ! (decide (10 ≤ o) && decide (o < 35))) (fun o k h => ?_) (fun j k hj _ _ => ?_) hT) (fun j hj => ?_) (fun j hj => ?_)⟩
    · simp only [Bool.not_eq_false', Bool.and_eq_true, decide_eq_true_eq] at h
      obtain ⟨j, rfl⟩ : ∃ j, o = 10 + j := ⟨o - 10, by omega⟩
      have hh := hυ 10 j k T10 (by omega)
      rw [hh.1, hh.2]
      exact q1' _ _ (by omega)
    · simp only [Bool.not_eq_false', Bool.and_eq_true, decide_eq_true_eq]; omega
    · rw [c', if_neg (by omega)]
    · rw [w', if_neg (by omega)]
theorem P_back {E : mEn} {d : Nat} {σ : mSt} (hI : Inv σ) : pairI E (d + 3) mPb_back mMo_back [.ref 0] [.ref 166] σ := by
  obtain ⟨m, hm, m1, m2, mT⟩ : RMk σ := hI.2.2.2.2.2.2.1
  have hB : RBo σ := hI.2.2.2.2.1.2.2
  by_cases h0 : m = 0
  · subst h0
    refine pairI_q hI (-1) (nI 8) (fun Q k => ?_) (fun τ q Q k => ?_)
    · rw [bPb_back_0, m1, if_pos (by decide), bPb_back_20, bPb_refuse_0, tl_s, bPb_back_26]
      exact k _ (by repeat' (first | exact qt_rf | assumption | refine qt_sI ?_ rfl | refine qt_sL ?_ rfl)) rfl
    · rw [bMo_back_0, show (sI (sI τ 166 1 0) 166 0 0).1 166 23 = nI 0 from ((q 166 23 rfl).1).trans m2, ite_nn nI_lit0, bMo_back_17, bMo_refuse_0, tl_s, bMo_back_23]
      exact k _ (by repeat' (first | exact qt_rf | assumption | refine qt_sI ?_ rfl | refine qt_sL ?_ rfl)) rfl rfl
  obtain ⟨n, rfl⟩ : ∃ n, m = n + 1 := ⟨m - 1, by omega⟩
  have hT3 := T_mk (show n < 3 by omega)
  obtain ⟨np, no, nl, nk, dy, hT⟩ := mT n (by omega)
  unfold pairI
  have n1 : ¬ nI (n + 1) < 1 := nI_nlt (b := 1) (by omega) (by omega)
  rw [bPb_back_0, m1, if_neg n1, bPb_back_8, m1, if_pos (nI_le (by omega) (by omega)), bPb_back_27, m1, nI_pred, sI_e, w_qald (r := 91 + 25 * n) dPb_back_45 sh_60 (mOut_f (show n < 3 by omega) (by omega)) (by rw [nI_clamp (by omega)]; exact fl_mk (by omega)), bPb_back_46 hT3]
  have hT' : TRel (sI σ 0 9 (nI n)) (91 + 25 * n) (fun j => σ.1 171 (600 * (n + 1) + j)) (fun j => σ.2 173 (20 * (n + 1) + j)) np no nl nk dy := TRel_q (S := fun o _ => o == 0) (qt_sI qt_rf rfl) (fun j k hj _ _ => by simp) hT
  have hB' : RBo (sI σ 0 9 (nI n)) := fun t ht k => by rw [sI_n (by have := isT_lt ht; omega)]; exact hB t ht k
  refine Pb_carry T10 hT3 (by omega) hT' hB' (fun τ q1 q2 q3 => ?_)
  have q1' : ∀ o k, o < 10 ∨ 35 ≤ o → τ.1 o k = (sI σ 0 9 (nI n)).1 o k ∧ τ.2 o k = σ.2 o k := fun o k h => q1 o k (by simp only [STc, Bool.and_eq_false_iff, decide_eq_false_iff_not]; omega)
  have e09 : τ.1 0 9 = nI n := (q1' 0 9 (by omega)).1
  have e23 : τ.1 166 23 = nI (n + 1) := ((q1' 166 23 (by omega)).1).trans m2
  rw [tl_n, bPb_back_53, e09, bPb_answer_0, tl_s, bPb_back_61]
  refine ⟨nI n, rfl, ?_⟩
  have n0 : ¬ nI (n + 1) = 0 := nI_ne0 (by omega) (by omega)
  have r23 : (sI (sI (sI τ 0 10 0) 166 1 0) 166 0 0).1 166 23 = nI (n + 1) := e23
  rw [bMo_back_0, r23, if_pos n0, bMo_back_24, r23]
  refine Mo_copy (a := n + 1) (b := 0) (by omega) (by omega) (by omega) (fun υ p1 p2 p3 => ?_)
  have p0 : ∀ o k, o ≠ 171 → o ≠ 173 → υ.1 o k = (sI (sI (sI τ 0 10 0) 166 1 0) 166 0 0).1 o k ∧ υ.2 o k = τ.2 o k := fun o k h1 h2 => p1 o k (by simp only [Bool.or_eq_false_iff, beq_eq_false_iff_ne]; exact ⟨h1, h2⟩)
  have s23 : υ.1 166 23 = nI (n + 1) := ((p0 166 23 (by omega) (by omega)).1).trans r23
  rw [tl_n, bMo_back_33, s23, nI_pred, sI_e]
  refine ⟨rfl, ?_⟩
  have c' : ∀ i, υ.1 171 i = if i < 600 then σ.1 171 (600 * (n + 1) + i) else σ.1 171 i := fun i => by
    have e171 : (sI (sI (sI τ 0 10 0) 166 1 0) 166 0 0).1 171 = σ.1 171 := funext fun k => (q1' 171 k (by omega)).1
    rw [p2, e171]
    by_cases z : i < 600
    · rw [pk_cpy_in (by omega) (by omega), if_pos z, Nat.mul_zero, Nat.sub_zero]
    · rw [pk_cpy_out (by omega), if_neg z]
  have w' : ∀ i, υ.2 173 i = if i < 20 then σ.2 173 (20 * (n + 1) + i) else σ.2 173 i := fun i => by
    have e173 : (sI (sI (sI τ 0 10 0) 166 1 0) 166 0 0).2 173 = σ.2 173 := funext fun k => (q1' 173 k (by omega)).2
    rw [p3, e173]
    by_cases z : i < 20
    · rw [pk_cpy_in (by omega) (by omega), if_pos z, Nat.mul_zero, Nat.sub_zero]
    · rw [pk_cpy_out (by omega), if_neg z]
  have hυ : ∀ t j k, isT t → j < 25 → υ.1 (t + j) k = τ.1 (t + j) k ∧ υ.2 (t + j) k = τ.2 (t + j) k := fun t j k ht hj => by
    have tl := isT_lt ht
    refine ⟨?_, (p0 _ _ (by omega) (by omega)).2⟩
    rw [(p0 _ _ (by omega) (by omega)).1]
    simp (disch := omega) only [sI_n]
  have Z : qt SMk σ (sI υ 166 23 (nI n)) := by
    refine qt_sI (qt_tr (τ := sI (sI (sI τ 0 10 0) 166 1 0) 166 0 0) (qt_sI (qt_sI (qt_sI (qt_tr (qt_sI qt_rf rfl) (qt_mono q1 (fun o k h => ?_))) rfl) rfl) rfl) (qt_mono p1 (fun o k h => ?_))) rfl
    · simp only [STc, Bool.and_eq_true, decide_eq_true_eq] at h
      simp only [SMk, Bool.or_eq_true, Bool.and_eq_true, decide_eq_true_eq]
      right; left; left; left; right; omega
    · simp only [Bool.or_eq_true] at h
      simp only [SMk, Bool.or_eq_true]
      rcases h with h | h
      · exact Or.inr (Or.inl (Or.inr h))
      · exact Or.inr (Or.inr h)
  refine Inv_Mk hI Z ?_ ⟨?_, ?_, ?_⟩ ?_ ?_
  · show υ.1 0 10 = υ.1 166 0
    rw [(p0 0 10 (by omega) (by omega)).1, (p0 166 0 (by omega) (by omega)).1]; rfl
  · rw [(Z 177 0 rfl).1]; exact hI.2.2.2.2.1.1
  · rw [(Z 178 0 rfl).1]; exact hI.2.2.2.2.1.2.1
  · intro t ht k
    rw [sI_n (by have := isT_lt ht; omega), (hυ t 9 k ht (by omega)).1]
    by_cases e : t = 10
    · subst e; exact q2 k
    · rw [(q1' (t + 9) k (by have := isT_lt ht; omega)).1]; exact hB' t ht k
  · refine ⟨n, by omega, ?_, ?_, fun i hi => ?_⟩
    · show υ.1 0 9 = nI n
      rw [(p0 0 9 (by omega) (by omega)).1]; exact e09
    · rfl
    · obtain ⟨np', no', nl', nk', dy', g⟩ := mT i (by omega)
      refine ⟨np', no', nl', nk', dy', TRel_x (TRel_q (σ := σ) (τ := sI υ 166 23 (nI n)) (S := fun o _ => ! (decide (91 + 25 * i ≤ o) && decide (o < 91 + 25 * i + 25))) (fun o k h => ?_) (fun j k hj _ _ => ?_) g) (fun j hj => ?_) (fun j hj => ?_)⟩
      · simp only [Bool.not_eq_false', Bool.and_eq_true, decide_eq_true_eq] at h
        obtain ⟨j, rfl⟩ : ∃ j, o = 91 + 25 * i + j := ⟨o - (91 + 25 * i), by omega⟩
        have hh := hυ (91 + 25 * i) j k (T_mk (by omega)) (by omega)
        refine ⟨?_, ?_⟩
        · rw [sI_n (by omega), hh.1, (q1' _ _ (by omega)).1, sI_n (by omega)]
        · show υ.2 _ _ = _
          rw [hh.2, (q1' _ _ (by omega)).2]
      · simp only [Bool.not_eq_false', Bool.and_eq_true, decide_eq_true_eq]; omega
      · rw [sI_n (by omega), c', if_neg (by omega)]
      · show υ.2 173 _ = _
        rw [w', if_neg (by omega)]
  · refine ⟨np, no, nl, nk, dy, TRel_x (TRel_q (σ := τ) (τ := sI υ 166 23 (nI n)) (S := fun o _ => ! (decide (10 ≤ o) && decide (o < 35))) (fun o k h => ?_) (fun j k hj _ _ => ?_) q3) (fun j hj => ?_) (fun j hj => ?_)⟩
    · simp only [Bool.not_eq_false', Bool.and_eq_true, decide_eq_true_eq] at h
      obtain ⟨j, rfl⟩ : ∃ j, o = 10 + j := ⟨o - 10, by omega⟩
      have hh := hυ 10 j k T10 (by omega)
      exact ⟨by rw [sI_n (by omega), hh.1], hh.2⟩
    · simp only [Bool.not_eq_false', Bool.and_eq_true, decide_eq_true_eq]; omega
    · rw [sI_n (by omega), c', if_pos hj]
    · show υ.2 173 _ = _
      rw [w', if_pos hj]
