/-! copies of towns: mark, back -/
theorem cpI_n {σ : mSt} {a b sp dp n o k : Nat} (h : o ≠ b) : (cpI σ a b sp dp n).1 o k = σ.1 o k := by rw [cpI_1 h]
theorem cpI_c {σ : mSt} {a b n k : Nat} (h : k < n) : (cpI σ a b 0 0 n).1 b k = σ.1 a k := by rw [cpI_u, pk_cpy_in (by omega) (by omega), Nat.sub_zero, Nat.zero_add]
theorem cpI_r2 {σ : mSt} {a b sp dp n : Nat} : (cpI σ a b sp dp n).2 = σ.2 := rfl
theorem cpL_r1 {σ : mSt} {a b sp dp n : Nat} : (cpL σ a b sp dp n).1 = σ.1 := rfl
theorem qt_cpI {S : Nat → Nat → Bool} {σ τ : mSt} {a b sp dp n : Nat} (h : qt S σ τ) (hs : ∀ k, S b k = true) : qt S σ (cpI τ a b sp dp n) := fun o k h0 => by
  have hn : o ≠ b := fun e => by rw [e, hs] at h0; cases h0
  exact ⟨by rw [cpI_n hn]; exact (h o k h0).1, (h o k h0).2⟩
theorem qt_cpL {S : Nat → Nat → Bool} {σ τ : mSt} {a b sp dp n : Nat} (h : qt S σ τ) (hs : ∀ k, S b k = true) : qt S σ (cpL τ a b sp dp n) := fun o k h0 => by
  have hn : o ≠ b := fun e => by rw [e, hs] at h0; cases h0
  exact ⟨(h o k h0).1, by rw [cpL_2 hn]; exact (h o k h0).2⟩
theorem isT_sep {t s : Nat} (ht : isT t) (hs : isT s) (h : t ≠ s) : t + 25 ≤ s ∨ s + 25 ≤ t := by
  rcases ht with rfl | rfl | rfl | rfl | rfl <;> rcases hs with rfl | rfl | rfl | rfl | rfl <;> omega
theorem bofit {x : Int32} (h : x = 0 ∨ x = 1) : fits .boolean (.int x) = true := by rcases h with rfl | rfl <;> rfl
theorem Pr_copyOf {E : mEn} {d : Nat} {Q : mPost} {σ : mSt} {t s : Nat} (ht : isT t) (hs : isT s) (sep : t + 25 ≤ s ∨ s + 25 ≤ t) (hb : ∀ k, σ.1 (s + 9) k = 0 ∨ σ.1 (s + 9) k = 1) (hb2 : ∀ k, σ.1 (t + 9) k = 0 ∨ σ.1 (t + 9) k = 1)
    (hQ : ∀ τ, qt (STc t) σ τ → τ.2 = σ.2 → τ.1 t = σ.1 t → τ.1 (t + 3) 8 = σ.1 (s + 3) 8 → (∀ j k, 4 ≤ j → j ≤ 9 → k < 40 → τ.1 (t + j) k = σ.1 (s + j) k) → (∀ k, τ.1 (t + 9) k = 0 ∨ τ.1 (t + 9) k = 1) → Q none τ) : WP E d mPr_copyOf 0 [.ref (t + 3), .ref (s + 3)] [] σ Q := by
  rw [bPr_copyOf_0 ht hs rfl rfl rfl rfl, bPr_copyOf_68 ht hs rfl rfl (fun j hj => ?_)]
  · refine hQ _ ?_ rfl ?_ ?_ ?_ ?_
    · repeat' (first | exact qt_rf | refine qt_cpI ?_ (fun _ => STc_in (by omega)) | refine qt_sI ?_ (STc_in (by omega)))
    · funext k
      simp (disch := omega) only [cpI_n, sI_n]
    · simp (disch := omega) only [cpI_n, sI_e]
    · intro j k j1 j2 hk
      obtain rfl | rfl | rfl | rfl | rfl | rfl : j = 4 ∨ j = 5 ∨ j = 6 ∨ j = 7 ∨ j = 8 ∨ j = 9 := by omega
      all_goals simp (disch := omega) only [cpI_n, cpI_c, sI_n]
    · intro k
      by_cases hk : k < 40
      · simp (disch := omega) only [cpI_n, cpI_c, sI_n]
        exact hb k
      · rw [cpI_u, pk_cpy_out (by omega)]
        simp (disch := omega) only [cpI_n, sI_n]
        exact hb2 k
  · simp (disch := omega) only [cpI_n, sI_n]
    exact bofit (hb _)
theorem Da_copyOf {E : mEn} {d : Nat} {Q : mPost} {σ : mSt} {t s : Nat} (ht : isT t) (hs : isT s) (sep : t + 25 ≤ s ∨ s + 25 ≤ t) (hb : σ.1 (s + 12) 5 = 0 ∨ σ.1 (s + 12) 5 = 1)
    (hQ : ∀ τ, qt (fun o _ => o == t + 12 || o == t + 13) σ τ → (∀ k, 2 ≤ k → k ≤ 5 → τ.1 (t + 12) k = σ.1 (s + 12) k) → (∀ k, k < 420 → τ.1 (t + 13) k = σ.1 (s + 13) k) → Q none τ) : WP E d mDa_copyOf 0 [.ref (t + 12), .ref (s + 12)] [] σ Q := by
  rw [bDa_copyOf_0 ht hs rfl, bDa_copyOf_34 ht hs ?_]
  · refine hQ _ ?_ ?_ ?_
    · repeat' (first | exact qt_rf | refine qt_cpI ?_ (fun _ => by simp) | refine qt_sI ?_ (by simp))
    · intro k k1 k2
      obtain rfl | rfl | rfl | rfl : k = 2 ∨ k = 3 ∨ k = 4 ∨ k = 5 := by omega
      all_goals simp (disch := omega) only [cpI_n, sI_n, sI_e]
    · intro k hk
      simp (disch := omega) only [cpI_c, sI_n]
  · simp (disch := omega) only [cpI_n, sI_n]
    exact hb
theorem Tw_copyOf {E : mEn} {d : Nat} {Q : mPost} {σ : mSt} {t s np no nl nk dy : Nat} {c : Nat → Int32} {w : Nat → Int64} (ht : isT t) (hs : isT s) (hne : t ≠ s) (hT : TRel σ s c w np no nl nk dy) (hB : RBo σ)
    (hQ : ∀ τ, qt (STc t) σ τ → (∀ k, τ.1 (t + 9) k = 0 ∨ τ.1 (t + 9) k = 1) → TRel τ t c w np no nl nk dy → Q none τ) : WP E (d + 1) mTw_copyOf 0 [.ref t, .ref s] [] σ Q := by
  obtain ⟨⟨b1, b2, b3, b4, b5⟩, ⟨t1, c1⟩, ⟨t2, c2⟩, ⟨t3, c3⟩, ⟨t4, c4⟩, ⟨t5, c5⟩, c6, gP, gO, gL, gB, gK, gN, gD⟩ := id hT
  have sep := isT_sep ht hs hne
  have tl := isT_lt ht
  have sl := isT_lt hs
  rw [bTw_copyOf_0 ht hs, bNa_copyOf_0 ht hs rfl, tl_n, bTw_copyOf_11 ht hs]
  refine Pr_copyOf ht hs sep (fun k => hB s hs k) (fun k => hB t ht k) (fun τ q1 q2 q3 q4 q5 q6 => ?_)
  have q1s : ∀ j k, j < 25 → τ.1 (s + j) k = σ.1 (s + j) k := fun j k hj => (q1 _ _ (by simp only [STc, Bool.and_eq_false_iff, decide_eq_false_iff_not]; omega)).1
  rw [tl_n, bTw_copyOf_22 ht hs]
  refine Da_copyOf ht hs sep (by rw [q1s 12 5 (by omega), gD.1]; rcases gD.2 with g | ⟨g, -⟩ <;> simp [g]) (fun υ p1 p2 p3 => ?_)
  have p1n : ∀ o k, o ≠ t + 12 → o ≠ t + 13 → υ.1 o k = τ.1 o k := fun o k h1 h2 => (p1 _ _ (by simp only [Bool.or_eq_false_iff, beq_eq_false_iff_ne]; exact ⟨h1, h2⟩)).1
  have ps : ∀ j k, j < 25 → υ.1 (s + j) k = σ.1 (s + j) k := fun j k hj => (p1n _ _ (by omega) (by omega)).trans (q1s j k hj)
  have ps0 : ∀ k, υ.1 s k = σ.1 s k := fun k => ps 0 k (by omega)
  rw [tl_n, bTw_copyOf_33 ht hs rfl rfl rfl rfl rfl, bTw_copyOf_107 ht hs rfl rfl rfl rfl rfl, bTw_copyOf_182 ht hs, bTw_copyOf_206 ht hs, bTw_copyOf_230 ht hs]
  simp (disch := omega) only [sI_n, cpI_n, ps0]
  refine hQ _ ?_ ?_ ?_
  · have z : qt (STc t) σ υ := qt_tr (qt_tr (qt_cpL qt_rf (fun _ => STc_in (by omega))) q1) (qt_mono p1 (fun o k h => by
      simp only [Bool.or_eq_true, beq_iff_eq] at h
      rcases h with rfl | rfl
      · exact STc_in (by omega)
      · exact STc_in (by omega)))
    repeat' (first | exact z | refine qt_cpI ?_ (fun _ => STc_in (by omega)) | refine qt_sI ?_ STc_in0)
  · intro k
    simp (disch := omega) only [sI_n, cpI_n, p1n]
    exact q6 k
  · have R : ∀ j k, 15 ≤ j → j ≤ 24 → k < (if j = 18 then 4 else 8) → (sI (sI (sI (sI (sI (sI (cpI (cpI (cpI (cpI (cpI (cpI (cpI (cpI (cpI (cpI υ (s + 15) (t + 15) 0 0 8) (s + 16) (t + 16) 0 0 8) (s + 17) (t + 17) 0 0 8) (s + 18) (t + 18) 0 0 4) (s + 19) (t + 19) 0 0 8) (s + 20) (t + 20) 0 0 8) (s + 21) (t + 21) 0 0 8) (s + 22) (t + 22) 0 0 8) (s + 23) (t + 23) 0 0 8) (s + 24) (t + 24) 0 0 8) t 13 (σ.1 s 13)) t 14 (σ.1 s 14)) t 15 (σ.1 s 15)) t 16 (σ.1 s 16)) t 17 (σ.1 s 17)) t 18 (σ.1 s 18)).1 (t + j) k = σ.1 (s + j) k := fun j k j1 j2 hk => by
      rw [← ps j k (by omega)]
      obtain rfl | rfl | rfl | rfl | rfl | rfl | rfl | rfl | rfl | rfl : j = 15 ∨ j = 16 ∨ j = 17 ∨ j = 18 ∨ j = 19 ∨ j = 20 ∨ j = 21 ∨ j = 22 ∨ j = 23 ∨ j = 24 := by omega
      all_goals
        simp only [Nat.reduceEqDiff, if_true, if_false] at hk
        simp (disch := omega) only [sI_n, cpI_n, cpI_c]
    have N : ∀ j k, 1 ≤ j → j ≤ 14 → (sI (sI (sI (sI (sI (sI (cpI (cpI (cpI (cpI (cpI (cpI (cpI (cpI (cpI (cpI υ (s + 15) (t + 15) 0 0 8) (s + 16) (t + 16) 0 0 8) (s + 17) (t + 17) 0 0 8) (s + 18) (t + 18) 0 0 4) (s + 19) (t + 19) 0 0 8) (s + 20) (t + 20) 0 0 8) (s + 21) (t + 21) 0 0 8) (s + 22) (t + 22) 0 0 8) (s + 23) (t + 23) 0 0 8) (s + 24) (t + 24) 0 0 8) t 13 (σ.1 s 13)) t 14 (σ.1 s 14)) t 15 (σ.1 s 15)) t 16 (σ.1 s 16)) t 17 (σ.1 s 17)) t 18 (σ.1 s 18)).1 (t + j) k = υ.1 (t + j) k := fun j k j1 j2 => by
      simp (disch := omega) only [sI_n, cpI_n]
    refine TRel_c hT b4 b5 ?_ ⟨rfl, rfl, rfl⟩ ⟨?_, c4⟩ ⟨?_, c5⟩ ⟨?_, c6.2⟩ (fun p hp => ?_) (fun k hk => ⟨R 18 k (by omega) (by omega) (by rw [if_pos rfl]; omega), rfl⟩) (fun l hl => ?_) ?_ (fun k hk => ?_) (fun k hk => ⟨?_, rfl⟩) (fun k k1 k2 => ?_) (fun k hk => ?_) (fun _ _ _ => rfl)
    · simp (disch := omega) only [sI_n, sI_e, and_self]
    · rw [N 3 8 (by omega) (by omega), p1n _ _ (by omega) (by omega), q4]; exact t4
    · simp (disch := omega) only [sI_n, sI_e]; exact t5
    · simp (disch := omega) only [sI_n, sI_e]; exact c6.1
    · rw [R 15 p (by omega) (by omega) (by rw [if_neg (by omega)]; omega), R 16 p (by omega) (by omega) (by rw [if_neg (by omega)]; omega), R 17 p (by omega) (by omega) (by rw [if_neg (by omega)]; omega)]
      exact gP p hp
    · refine LRel_c (gL l hl) (fun j j1 j2 => R j l (by omega) (by omega) (by rw [if_neg (by omega)]; omega)) ?_ (fun _ _ _ _ => rfl) (by omega)
      simp (disch := omega) only [sI_n, sI_e]
    · simp (disch := omega) only [sI_n, sI_e]; exact gB
    · refine PRel_c (gK k hk) (fun j j1 j2 => ?_) (fun _ _ => rfl)
      rw [N j k (by omega) (by omega), p1n _ _ (by omega) (by omega), q5 j k j1 j2 (by omega)]; rfl
    · show υ.2 (t + 2) k = σ.2 (s + 2) k
      rw [(p1 (t + 2) k (by simp only [Bool.or_eq_false_iff, beq_eq_false_iff_ne]; omega)).2, q2, cpL_u, pk_cpy_in (by omega) (by omega), Nat.sub_zero, Nat.zero_add]
    · rw [N 12 k (by omega) (by omega), p2 k k1 k2]; exact q1s 12 k (by omega)
    · rw [N 13 k (by omega) (by omega), p3 k hk]; exact q1s 13 k (by omega)
theorem Pb_carry {E : mEn} {d : Nat} {Q : mPost} {σ : mSt} {t s np no nl nk dy : Nat} {c : Nat → Int32} {w : Nat → Int64} (ht : isT t) (hs : isT s) (hne : t ≠ s) (hT : TRel σ s c w np no nl nk dy) (hB : RBo σ)
    (hQ : ∀ τ, qt (STc t) σ τ → (∀ k, τ.1 (t + 9) k = 0 ∨ τ.1 (t + 9) k = 1) → TRel τ t c w np no nl nk dy → Q none τ) : WP E (d + 2) mPb_carry 0 [.ref s, .ref t] [] σ Q := by
  rw [bPb_carry_0 hs ht, bPb_carry_4 hs ht, bPb_carry_8 hs ht]
  refine Tw_copyOf ht hs hne hT hB (fun τ q1 q2 q3 => ?_)
  rw [tl_n, bPb_carry_13 hs ht]
  exact hQ τ q1 q2 q3
