/-! town: the class and the reference -/
def SRy (o k : Nat) : Bool := SQ o k || ((o == 0 && (k == 13 || k == 14)) || o == 6 || o == 9 || (decide (10 ≤ o) && decide (o ≤ 59)) || (o == 166 && ((decide (8 ≤ k) && decide (k ≤ 19)) || k == 24)) || o == 171 || o == 173)
theorem Inv_Ry {σ τ : mSt} (h : Inv σ) (q : qt SRy σ τ) (hs : τ.1 0 10 = τ.1 166 0) (hfa : τ.1 0 13 = τ.1 166 10 ∧ τ.1 0 14 = τ.1 166 11) (htp : τ.1 7 = τ.1 170 ∧ τ.1 6 2 = τ.1 166 8 ∧ (∀ k, isBy (τ.1 170 k)) ∧ ∃ n, n ≤ 900 ∧ τ.1 166 8 = nI n) (hgs : τ.1 177 0 = 0 ∧ τ.1 178 0 = 0 ∧ RBo τ) (hmk : RMk τ) (htw : isTown τ 10 (τ.1 171) (τ.2 173)) : Inv τ := by
  have e1 : ∀ o k, SRy o k = false → τ.1 o k = σ.1 o k := fun o k g => (q o k g).1
  have e2 : ∀ o k, SRy o k = false → τ.2 o k = σ.2 o k := fun o k g => (q o k g).2
  have f1 : ∀ o, (∀ k, SRy o k = false) → τ.1 o = σ.1 o := fun o g => funext fun k => e1 o k (g k)
  have f2 : ∀ o, (∀ k, SRy o k = false) → τ.2 o = σ.2 o := fun o g => funext fun k => e2 o k (g k)
  obtain ⟨h1, h2, h3, h4, h5, h6, h7, h8, h9, h10, h11⟩ := h
  refine ⟨hs, ?_, ?_, ?_, ?_, ?_, ?_, ?_, ?_, ?_, ?_⟩
  · rw [e2 0 11 rfl, e2 0 12 rfl, e2 166 2 rfl, e2 166 3 rfl]; exact h2
  · exact hfa
  · exact htp
  · exact hgs
  · unfold RTr; rw [f2 2 (fun _ => rfl), f2 169 (fun _ => rfl), f1 3 (fun _ => rfl), f1 167 (fun _ => rfl), f1 4 (fun _ => rfl), f1 168 (fun _ => rfl)]; exact h6
  · exact hmk
  · unfold RLv; rw [e1 0 15 rfl, e1 166 37 rfl, e1 73 4 rfl, e1 73 5 rfl, e1 73 6 rfl, e1 73 7 rfl, e1 73 8 rfl, f1 183 (fun _ => rfl)]; exact h8
  · unfold RRg; rw [e1 68 4 rfl, e1 166 33 rfl, f1 72 (fun _ => rfl), f1 180 (fun _ => rfl)]; exact h9
  · unfold RKw; rw [f2 8 (fun _ => rfl)]; exact h10
  · exact htw
theorem RMk_x {σ τ : mSt} {S : Nat → Nat → Bool} (h : RMk σ) (q : qt S σ τ) (h1 : S 0 9 = false) (h2 : S 166 23 = false) (h3 : ∀ o k, 91 ≤ o → o < 166 → S o k = false) (h4 : ∀ j, 600 ≤ j → j < 2400 → τ.1 171 j = σ.1 171 j) (h5 : ∀ j, 20 ≤ j → j < 80 → τ.2 173 j = σ.2 173 j) : RMk τ := by
  obtain ⟨k, b1, b2, b3, b4⟩ := h
  refine ⟨k, b1, by rw [(q 0 9 h1).1]; exact b2, by rw [(q 166 23 h2).1]; exact b3, fun i hi => ?_⟩
  obtain ⟨np, no, nl, nk, dy, g⟩ := b4 i hi
  exact ⟨np, no, nl, nk, dy, TRel_x (TRel_q q (fun j k' hj _ _ => h3 _ _ (by omega) (by omega)) g) (fun j hj => h4 _ (by omega) (by omega)) (fun j hj => h5 _ (by omega) (by omega))⟩
theorem nI_all (a : Int32) (h : ¬ a < 0) : ∃ n, n < 2 ^ 31 ∧ a = nI n := by
  have h0 := Int32.le_iff_toInt_le.mp (Int32.not_lt.mp h)
  have h2 := Int32.toInt_lt a
  have e0 : (0 : Int32).toInt = 0 := rfl
  obtain ⟨n, hn, e⟩ := nI_toI (x := a) (B := 2 ^ 31 - 1) (by omega) (by omega)
  exact ⟨n, by omega, e⟩
theorem Inv_tape {σ : mSt} (hI : Inv σ) : ∃ m, m ≤ 900 ∧ σ.1 6 2 = nI m ∧ σ.1 166 8 = nI m ∧ σ.1 7 = σ.1 170 ∧ ∀ k, isBy (σ.1 170 k) := by
  obtain ⟨h1, h2, h3, n, hn, e⟩ := hI.2.2.2.1
  exact ⟨n, hn, h2.trans e, e, h1, h3⟩
theorem P_town {E : mEn} {d : Nat} {σ : mSt} {a : Int32} {u v : Value} (hI : Inv σ) : pairI E (d + 9) mPb_town mMo_town [.ref 0, .int a, u] [.ref 166, .int a, v] σ := by
  obtain ⟨m, hm, h6, h8, h7, hb⟩ := Inv_tape hI
  by_cases a0 : a < 0
  · refine pairI_q hI (-1) (nI 5) (fun Q k => ?_) (fun τ q Q k => ?_)
    · rw [bPb_town_0, if_pos a0, bPb_town_18, bPb_refuse_0, tl_s, bPb_town_23]
      exact k _ (by repeat' (first | exact qt_rf | assumption | refine qt_sI ?_ rfl | refine qt_sL ?_ rfl)) rfl
    · rw [bMo_town_0, bMo_opens_0, if_pos a0, bMo_opens_17, bMo_no_0, tl_s, bMo_opens_22 (Or.inl rfl), tl_s, bMo_town_18, ite_nn rfl, bMo_town_21]
      exact k _ (by repeat' (first | exact qt_rf | assumption | refine qt_sI ?_ rfl | refine qt_sL ?_ rfl)) rfl rfl
  obtain ⟨n, hn, rfl⟩ := nI_all a a0
  by_cases nm : n ≤ m
  rotate_left
  · refine pairI_q hI (-1) (nI 5) (fun Q k => ?_) (fun τ q Q k => ?_)
    · rw [bPb_town_0, if_neg a0, bPb_town_4, h6, if_neg (nI_ge (by omega) hn), bPb_town_18, bPb_refuse_0, tl_s, bPb_town_23]
      exact k _ (by repeat' (first | exact qt_rf | assumption | refine qt_sI ?_ rfl | refine qt_sL ?_ rfl)) rfl
    · rw [bMo_town_0, bMo_opens_0, if_neg a0, bMo_opens_4, show (sI (sI τ 166 1 0) 166 0 0).1 166 8 = nI m from ((q 166 8 rfl).1).trans h8, if_pos (nI_lt (by omega) hn), bMo_opens_17, bMo_no_0, tl_s, bMo_opens_22 (Or.inl rfl), tl_s, bMo_town_18, ite_nn rfl, bMo_town_21]
      exact k _ (by repeat' (first | exact qt_rf | assumption | refine qt_sI ?_ rfl | refine qt_sL ?_ rfl)) rfl rfl
  unfold pairI
  have hB : RBo σ := hI.2.2.2.2.1.2.2
  have fB : ∀ {υ : mSt}, qt SRo σ υ → GB σ υ 35 → RBo υ := fun {υ} q gb t ht k => by
    rcases ht with rfl | rfl | rfl | rfl | rfl
    · rw [(q 19 k rfl).1]; exact hB 10 T10 k
    · rcases gb k with g | g
      · rw [g]; exact hB 35 T35 k
      · exact g
    · rw [(q 100 k rfl).1]; exact hB 91 (by simp [isT]) k
    · rw [(q 125 k rfl).1]; exact hB 116 (by simp [isT]) k
    · rw [(q 150 k rfl).1]; exact hB 141 (by simp [isT]) k
  have SRn : ∀ o k, SRo o k = true → SRy o k = true := fun o k h => by
    simp only [SRo, SRd, S6b, S6o, STc, Bool.or_eq_true, Bool.and_eq_true, decide_eq_true_eq, beq_iff_eq] at h
    simp only [SRy, Bool.or_eq_true, Bool.and_eq_true, decide_eq_true_eq, beq_iff_eq]; right; omega
  have SMn : ∀ o k, SMt o k = true → SRy o k = true := fun o k h => by
    simp only [SMt, Bool.or_eq_true, Bool.and_eq_true, decide_eq_true_eq, beq_iff_eq] at h
    simp only [SRy, SQ, Bool.or_eq_true, Bool.and_eq_true, decide_eq_true_eq, beq_iff_eq, bne_iff_ne]; omega
  have mk3 : ∀ o k, 91 ≤ o → o < 166 → SRy o k = false := fun o k x1 x2 => by
    simp only [SRy, SQ, Bool.or_eq_false_iff, Bool.and_eq_false_iff, beq_eq_false_iff_ne, decide_eq_false_iff_not, ne_eq, bne_eq_false_iff_eq]; omega
  rw [bPb_town_0, if_neg a0, bPb_town_4, h6, if_pos (nI_le nm (by omega)), bPb_town_24]
  refine Te_readTown (w := fun j => σ.2 173 (80 + j)) h6 hm nm hI.2.2.2.2.2.2.2.2.2.1 (fun c' w' υ ep q1 gb i2 i9 j10 hD => ?_) (fun e υ ep q1 gb i2 cb => ?_)
  · rw [tl_s, bPb_town_36, bPb_keepFault_0, tl_n, bPb_town_41, if_pos i10, bPb_town_52, i9, show (sI υ 0 13 0).1 6 10 = -1 from j10]
    obtain ⟨np, no, nl, nk, hT, h17, hk16, hZ⟩ := hD
    have q2 : qt SRy σ (sI (sI υ 0 13 0) 0 14 (-1)) := qt_sI (qt_sI (qt_mono q1 SRn) rfl) rfl
    have hT1 : TRel (sI (sI υ 0 13 0) 0 14 (-1)) 35 c' w' np no nl nk 0 := TRel_q (S := fun o _ => o == 0) (qt_sI (qt_sI qt_rf rfl) rfl) (fun j k hj _ _ => by simp) hT
    have hB1 : RBo (sI (sI υ 0 13 0) 0 14 (-1)) := fun t ht k => by
      have := isT_lt ht
      rw [sI_n (by omega), sI_n (by omega)]; exact fB q1 gb t ht k
    have k13 : (sI (sI υ 0 13 0) 0 14 (-1)).1 0 13 = 0 := rfl
    have k14 : (sI (sI υ 0 13 0) 0 14 (-1)).1 0 14 = -1 := rfl
    have k62 : (sI (sI υ 0 13 0) 0 14 (-1)).1 6 2 = 0 := i2
    have k8 : (sI (sI υ 0 13 0) 0 14 (-1)).1 166 8 = σ.1 166 8 := (q1 166 8 rfl).1
    have k171 : (sI (sI υ 0 13 0) 0 14 (-1)).1 171 = σ.1 171 := funext fun k => (q1 171 k rfl).1
    have k173 : (sI (sI υ 0 13 0) 0 14 (-1)).2 173 = σ.2 173 := funext fun k => (q1 173 k rfl).2
    generalize sI (sI υ 0 13 0) 0 14 (-1) = υ1 at *
    refine Pb_carry T10 T35 (by omega) hT1 hB1 (fun ω q3 gB hT2 => ?_)
    rw [tl_n, bPb_town_63, hT2.2.2.2.1.1, bPb_answer_0, tl_s, bPb_town_74]
    refine ⟨nI nl, rfl, ?_⟩
    have q4 : qt SRy σ (sI ω 0 10 0) := qt_sI (qt_tr q2 (qt_mono q3 (fun o k h => by
      simp only [STc, Bool.and_eq_true, decide_eq_true_eq] at h
      simp only [SRy, Bool.or_eq_true, Bool.and_eq_true, decide_eq_true_eq, beq_iff_eq]; right; omega))) rfl
    have l171 : (sI ω 0 10 0).1 171 = σ.1 171 := (funext fun k => (q3 171 k rfl).1).trans k171
    have l173 : (sI ω 0 10 0).2 173 = σ.2 173 := (funext fun k => (q3 173 k rfl).2).trans k173
    refine Mo_town (T := σ.1 7) (w := fun j => σ.2 173 (80 + j)) (m := m) ((funext fun k => (q4 170 k rfl).1).trans h7.symm) (fun j _ => by rw [l173]) ?_ hm nm (by rw [h7]; exact hb) (fun c'' w'' ζ ep' r1 r2 r3 r4 r5 r6 r7 r8 r9 => ?_) (fun e ζ ep' _ _ _ _ _ => ?_)
    · show ω.1 166 8 = nI m
      rw [(q3 166 8 rfl).1]; exact k8.trans h8
    · have ec := Except.ok.inj (ep'.symm.trans ep)
      obtain rfl : c'' = c' := congrArg Prod.fst ec
      obtain rfl : w'' = w' := congrArg Prod.snd ec
      refine ⟨by rw [hT2.2.2.2.1.2], ?_⟩
      have Z : qt SRy σ ζ := qt_tr q4 (qt_mono r1 SMn)
      have zω : ∀ o k, o < 166 → o ≠ 0 → ζ.1 o k = ω.1 o k := fun o k x1 x2 => by
        rw [(r1 o k (by simp only [SMt, Bool.or_eq_false_iff, Bool.and_eq_false_iff, beq_eq_false_iff_ne, ne_eq]; omega)).1, sI_n (by omega)]
      refine Inv_Ry hI Z ?_ ⟨?_, ?_⟩ ⟨?_, ?_, ?_, 0, by omega, r3⟩ ⟨(Z 177 0 rfl).1.trans hI.2.2.2.2.1.1, (Z 178 0 rfl).1.trans hI.2.2.2.2.1.2.1, ?_⟩ ?_ ?_
      · rw [(r1 0 10 rfl).1, r2]; rfl
      · rw [(r1 0 13 rfl).1, r4]; exact ((q3 0 13 rfl).1).trans k13
      · rw [(r1 0 14 rfl).1, r5]; exact ((q3 0 14 rfl).1).trans k14
      · exact (funext fun k => (Z 7 k rfl).1).trans (h7.trans (funext fun k => (Z 170 k rfl).1).symm)
      · rw [r3, zω 6 2 (by omega) (by omega), (q3 6 2 rfl).1]; exact k62
      · intro k; rw [(Z 170 k rfl).1]; exact hb k
      · intro t ht k
        have tl := isT_lt ht
        rw [zω _ _ (by omega) (by omega)]
        by_cases t10 : t = 10
        · subst t10; exact gB k
        · rw [(q3 (t + 9) k (by have := isT_sep ht T10 t10; simp only [STc, Bool.and_eq_false_iff, decide_eq_false_iff_not]; omega)).1]; exact hB1 t ht k
      · exact RMk_x hI.2.2.2.2.2.2.1 Z rfl rfl mk3 (fun j x1 x2 => (r8 j x1 x2).trans (by rw [l171])) (fun j x1 x2 => (r9 j x1 x2).trans (by rw [l173]))
      · refine ⟨np, no, nl, nk, 0, TRel_x (TRel_q (σ := ω) (S := fun o k => o == 0 || SMt o k) (fun o k h => ?_) (fun j k hj _ _ => ?_) hT2) r6 r7⟩
        · simp only [Bool.or_eq_false_iff, beq_eq_false_iff_ne] at h
          exact ⟨(r1 o k h.2).1.trans (sI_n (Or.inl h.1)), (r1 o k h.2).2⟩
        · simp only [SMt, Bool.or_eq_false_iff, Bool.and_eq_false_iff, beq_eq_false_iff_ne, ne_eq]; omega
    · exact absurd (ep'.symm.trans ep) (by simp)
  · rw [tl_s, bPb_town_36, bPb_keepFault_0, tl_n, bPb_town_41, ite_nn rfl, bPb_town_45, bPb_refuse_0, tl_s, bPb_town_51, cb.1, show (sI υ 0 13 (nI e.1)).1 6 10 = nI e.2 from cb.2.1]
    refine ⟨-1, rfl, ?_⟩
    have q2 : qt SRy σ (sI (sI (sI υ 0 13 (nI e.1)) 0 14 (nI e.2)) 0 10 (nI 10)) := qt_sI (qt_sI (qt_sI (qt_mono q1 SRn) rfl) rfl) rfl
    have k8 : (sI (sI (sI υ 0 13 (nI e.1)) 0 14 (nI e.2)) 0 10 (nI 10)).1 166 8 = nI m := ((q1 166 8 rfl).1).trans h8
    have hB1 : RBo (sI (sI (sI υ 0 13 (nI e.1)) 0 14 (nI e.2)) 0 10 (nI 10)) := fun t ht k => by
      have := isT_lt ht
      rw [sI_n (by omega), sI_n (by omega), sI_n (by omega)]; exact fB q1 gb t ht k
    have k10 : (sI (sI (sI υ 0 13 (nI e.1)) 0 14 (nI e.2)) 0 10 (nI 10)).1 0 10 = nI 10 := rfl
    have k13 : (sI (sI (sI υ 0 13 (nI e.1)) 0 14 (nI e.2)) 0 10 (nI 10)).1 0 13 = nI e.1 := rfl
    have k14 : (sI (sI (sI υ 0 13 (nI e.1)) 0 14 (nI e.2)) 0 10 (nI 10)).1 0 14 = nI e.2 := rfl
    have k62 : (sI (sI (sI υ 0 13 (nI e.1)) 0 14 (nI e.2)) 0 10 (nI 10)).1 6 2 = 0 := i2
    have k171 : (sI (sI (sI υ 0 13 (nI e.1)) 0 14 (nI e.2)) 0 10 (nI 10)).1 171 = σ.1 171 := funext fun k => (q1 171 k rfl).1
    have k173 : (sI (sI (sI υ 0 13 (nI e.1)) 0 14 (nI e.2)) 0 10 (nI 10)).2 173 = σ.2 173 := funext fun k => (q1 173 k rfl).2
    have kT : ∀ o k, 10 ≤ o → o < 35 → (sI (sI (sI υ 0 13 (nI e.1)) 0 14 (nI e.2)) 0 10 (nI 10)).1 o k = σ.1 o k ∧ (sI (sI (sI υ 0 13 (nI e.1)) 0 14 (nI e.2)) 0 10 (nI 10)).2 o k = σ.2 o k := fun o k x1 x2 => by
      have := q1 o k (by simp only [SRo, SRd, S6b, S6o, STc, Bool.or_eq_false_iff, Bool.and_eq_false_iff, decide_eq_false_iff_not, beq_eq_false_iff_ne, ne_eq]; omega)
      exact ⟨by rw [sI_n (by omega), sI_n (by omega), sI_n (by omega)]; exact this.1, this.2⟩
    generalize sI (sI (sI υ 0 13 (nI e.1)) 0 14 (nI e.2)) 0 10 (nI 10) = υ1 at *
    refine Mo_town (T := σ.1 7) (w := fun j => σ.2 173 (80 + j)) (m := m) ((funext fun k => (q2 170 k rfl).1).trans h7.symm) (fun j _ => by rw [k173]) k8 hm nm (by rw [h7]; exact hb) (fun c'' w'' ζ ep' _ _ _ _ _ _ _ _ _ => ?_) (fun e' ζ ep' r1 r2 r3 r4 r5 => ?_)
    · exact absurd (ep'.symm.trans ep) (by simp)
    · obtain rfl : e' = e := Except.error.inj (ep'.symm.trans ep)
      refine ⟨rfl, ?_⟩
      have Z : qt SRy σ ζ := qt_tr q2 (qt_mono r1 (fun o k h => SMn o k (SMu_t h)))
      have zω : ∀ o k, o < 166 → ζ.1 o k = υ1.1 o k ∧ ζ.2 o k = υ1.2 o k := fun o k x1 => r1 o k (by simp only [SMu, Bool.or_eq_false_iff, Bool.and_eq_false_iff, beq_eq_false_iff_ne, ne_eq]; omega)
      have z171 : ∀ j, j < 2400 → ζ.1 171 j = σ.1 171 j := fun j x1 => by
        rw [(r1 171 j (by simp only [SMu, Bool.or_eq_false_iff, Bool.and_eq_false_iff, beq_eq_false_iff_ne, decide_eq_false_iff_not, ne_eq]; omega)).1, k171]
      have z173 : ∀ j, j < 80 → ζ.2 173 j = σ.2 173 j := fun j x1 => by
        rw [(r1 173 j (by simp only [SMu, Bool.or_eq_false_iff, Bool.and_eq_false_iff, beq_eq_false_iff_ne, decide_eq_false_iff_not, ne_eq]; omega)).2, k173]
      obtain ⟨np, no, nl, nk, dy, hT⟩ := Inv_town hI
      refine Inv_Ry hI Z ?_ ⟨?_, ?_⟩ ⟨?_, ?_, ?_, 0, by omega, r3⟩ ⟨(Z 177 0 rfl).1.trans hI.2.2.2.2.1.1, (Z 178 0 rfl).1.trans hI.2.2.2.2.1.2.1, ?_⟩ ?_ ?_
      · rw [(zω 0 10 (by omega)).1, r2, k10]
      · rw [(zω 0 13 (by omega)).1, r4, k13]
      · rw [(zω 0 14 (by omega)).1, r5, k14]
      · exact (funext fun k => (Z 7 k rfl).1).trans (h7.trans (funext fun k => (Z 170 k rfl).1).symm)
      · rw [r3, (zω 6 2 (by omega)).1, k62]
      · intro k; rw [(Z 170 k rfl).1]; exact hb k
      · intro t ht k
        have tl := isT_lt ht
        rw [(zω _ _ (by omega)).1]; exact hB1 t ht k
      · exact RMk_x hI.2.2.2.2.2.2.1 Z rfl rfl mk3 (fun j x1 x2 => z171 j x2) (fun j x1 x2 => z173 j x2)
      · refine ⟨np, no, nl, nk, dy, TRel_x (TRel_q (σ := σ) (S := fun o k => ! (decide (10 ≤ o) && decide (o < 35))) (fun o k h => ?_) (fun j k hj _ _ => ?_) hT) (fun j hj => z171 j (by omega)) (fun j hj => z173 j (by omega))⟩
        · simp only [Bool.not_eq_false', Bool.and_eq_true, decide_eq_true_eq] at h
          have a1 := zω o k (by omega)
          have a2 := kT o k h.1 h.2
          exact ⟨a1.1.trans a2.1, a1.2.trans a2.2⟩
        · simp only [Bool.not_eq_false', Bool.and_eq_true, decide_eq_true_eq]; omega
