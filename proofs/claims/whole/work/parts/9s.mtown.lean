/-! the reference reads a town: its loop, its end -/
theorem Mo_town_loop {E : mEn} {d : Nat} {Q : mPost} {T : Nat → Int32} {n : Nat} {a1 a2 : Int32} : ∀ (f q : Nat) (c : Nat → Int32) (w : Nat → Int64) (τ : mSt), n ≤ q + f → MOk τ T n q → MD τ c w → CXc c →
    (∀ c' w' υ, pTown T n f c w q = .ok (c', w') → qt SMd τ υ → υ.1 166 12 = 0 → MD υ c' w' → WP E (d + 9) mMo_town 136 [.ref 166, .int a1, .int a2] [] υ Q) →
    (∀ e υ, pTown T n f c w q = .error e → qt SMd τ υ → MBad υ e → WP E (d + 9) mMo_town 136 [.ref 166, .int a1, .int a2] [] υ Q) → WP E (d + 9) mMo_town 49 [.ref 166, .int a1, .int a2] [] τ Q := by
  intro f
  induction f with
  | zero =>
    intro q c w τ hq h hM hC h1 h2
    rw [bMo_town_49, h.1, ite_nn rfl, bMo_town_56, h.2.1.1, kd_end (by omega), if_pos nI_lit0]
    exact h1 c w τ rfl qt_rf h.1 hM
  | succ f ih =>
    intro q c w τ hq h hM hC h1 h2
    have k4 := kd_le (T := T) (n := n) (q := q)
    rw [bMo_town_49, h.1, ite_nn rfl, bMo_town_56, h.2.1.1]
    unfold pTown at h1 h2
    by_cases z : kd T n q = 0
    · rw [if_pos z] at h1
      rw [z, if_pos nI_lit0]
      exact h1 c w τ rfl qt_rf h.1 hM
    rw [if_neg z] at h1 h2
    rw [if_neg (show ¬ nI (kd T n q) = 0 from fun g => z ((nI_eq (b := 0) (by omega) (by omega)).mp g)), bMo_town_63, Mo_isPerson h, tl_s, bMo_town_67]
    have bad : ∀ e υ, pAny T n c w q = .error e → qt SMd τ υ → MBad υ e → WP E (d + 9) mMo_town 123 [.ref 166, .int a1, .int a2] [] υ Q := fun e υ ea q1 g => by
      rw [ea] at h2
      dsimp only at h2
      rw [bMo_town_123]
      refine Mo_sign_a (fun b _ => ?_)
      rw [tl_s, bMo_town_130, Mo_must_b g, tl_n, bMo_town_133, bMo_town_49, if_pos (MBad_n g).1]
      exact h2 e υ rfl q1 g
    have good : ∀ c' w' q' υ, pAny T n c w q = tSg c' w' (pSg T n q') → qt SMd τ υ → MOk υ T n q' → MD υ c' w' → CXc c' → WP E (d + 9) mMo_town 123 [.ref 166, .int a1, .int a2] [] υ Q := fun c' w' q' υ ea q1 g m x => by
      rw [← tSg_e] at ea
      rw [bMo_town_123, Mo_isSign g, tl_s, bMo_town_130]
      by_cases y : isS T n q' 59 = true
      · rw [if_pos y] at ea
        have lt : q < bh T n q' := pAny_lt ea
        rw [ea] at h1 h2
        dsimp only at h1 h2
        rw [b2i_t y]
        refine Mo_must_t g (fun ψ q2 g2 => ?_)
        rw [tl_n, bMo_town_133]
        exact ih _ c' w' ψ (by omega) g2 (MD_q m q2) x (fun c'' w'' υ' e' r1 r2 r3 => h1 c'' w'' υ' e' (qt_tr q1 (qt_tr (qt_M q2) r1)) r2 r3) (fun e υ' e' r1 r2 => h2 e υ' e' (qt_tr q1 (qt_tr (qt_M q2) r1)) r2)
      · rw [if_neg y] at ea
        rw [ea] at h2
        dsimp only at h2
        rw [b2i_f y]
        refine Mo_must_f g (fun ψ q2 g2 => ?_)
        rw [tl_n, bMo_town_133, bMo_town_49, if_pos (MBad_n g2).1]
        exact h2 _ ψ rfl (qt_tr q1 (qt_M q2)) g2
    by_cases y0 : isW T n q 0 = true
    · have ea : pAny T n c w q = pPerson T n c w q := if_pos y0
      rw [b2i_t y0, if_neg i10, bMo_town_70]
      refine Mo_readPerson h hM hC (fun c' w' q' e1 υ q1 g1 g2 g3 => ?_) (fun e e1 υ q1 g1 => ?_)
      · rw [tl_n, bMo_town_74]; exact good c' w' q' υ (ea.trans e1) q1 g1 g2 g3
      · rw [tl_n, bMo_town_74]; exact bad e υ (ea.trans e1) q1 g1
    rw [b2i_f y0, if_pos rfl, bMo_town_77, Mo_isOven h, tl_s, bMo_town_81]
    by_cases y2 : isW T n q 2 = true
    · have ea : pAny T n c w q = pOven T n c w q := by unfold pAny; rw [if_neg y0, if_pos y2]
      rw [b2i_t y2, if_neg i10, bMo_town_84]
      refine Mo_readOven h hM hC (fun c' w' q' e1 υ q1 g1 g2 g3 => ?_) (fun e e1 υ q1 g1 => ?_)
      · rw [tl_n, bMo_town_88]; exact good c' w' q' υ (ea.trans e1) q1 g1 g2 g3
      · rw [tl_n, bMo_town_88]; exact bad e υ (ea.trans e1) q1 g1
    rw [b2i_f y2, if_pos rfl, bMo_town_91, Mo_isLoaf h, tl_s, bMo_town_95]
    by_cases y4 : isW T n q 4 = true
    · have ea : pAny T n c w q = pLoaf T n c w q := by unfold pAny; rw [if_neg y0, if_neg y2, if_pos y4]
      rw [b2i_t y4, if_neg i10, bMo_town_98]
      refine Mo_readLoaf h hM hC (fun c' w' q' e1 υ q1 g1 g2 g3 => ?_) (fun e e1 υ q1 g1 => ?_)
      · rw [tl_n, bMo_town_102]; exact good c' w' q' υ (ea.trans e1) q1 g1 g2 g3
      · rw [tl_n, bMo_town_102]; exact bad e υ (ea.trans e1) q1 g1
    rw [b2i_f y4, if_pos rfl, bMo_town_105, Mo_isPromise h, tl_s, bMo_town_109]
    by_cases y10 : isW T n q 10 = true
    · have ea : pAny T n c w q = pTP T n c w q := by unfold pAny; rw [if_neg y0, if_neg y2, if_neg y4, if_pos y10]
      rw [b2i_t y10, if_neg i10, bMo_town_112]
      refine Mo_readPromise h y10 hM hC (fun c' w' q' e1 υ q1 g1 g2 g3 => ?_) (fun e e1 υ q1 g1 => ?_)
      · rw [tl_n, bMo_town_116]; exact good c' w' q' υ (ea.trans e1) q1 g1 g2 g3
      · rw [tl_n, bMo_town_116]; exact bad e υ (ea.trans e1) q1 g1
    have ea : pAny T n c w q = .error (er T n q) := by unfold pAny; rw [if_neg y0, if_neg y2, if_neg y4, if_neg y10]
    rw [b2i_f y10, if_pos rfl, bMo_town_119]
    refine Mo_wrong h (fun υ q1 g => ?_)
    rw [tl_n]
    exact bad _ υ ea (qt_M q1) g
theorem Mo_town_clear {E : mEn} {d : Nat} {Q : mPost} {a1 : Int32} : ∀ (j k : Nat) (τ : mSt), k + j = 600 →
    (∀ υ a2, qt (fun o i => o == 171 && decide (2400 ≤ i) && decide (i < 3000)) τ υ → (∀ i, i < k → υ.1 171 (2400 + i) = τ.1 171 (2400 + i)) → (∀ i, k ≤ i → i < 600 → υ.1 171 (2400 + i) = 0) → WP E d mMo_town 49 [.ref 166, .int a1, .int a2] [] υ Q) → WP E d mMo_town 25 [.ref 166, .int a1, .int (nI k)] [] τ Q
  | 0, k, τ, e, hQ => by
    rw [bMo_town_25, if_pos (nI_le (by omega) (by omega))]
    exact hQ τ _ qt_rf (fun _ _ => rfl) (fun i h1 h2 => absurd h1 (by omega))
  | j + 1, k, τ, e, hQ => by
    rw [bMo_town_25, if_neg (nI_ge (by omega) (by omega)), bMo_town_32, nI_add, mOut_f (by omega) (by omega), if_neg (by decide), nI_clamp (by omega), nI_1]
    refine Mo_town_clear j (k + 1) _ (by omega) (fun υ a2 q1 g1 g2 => hQ υ a2 (qt_tr (qt_sI qt_rf ?_) q1) (fun i hi => ?_) (fun i h1 h2 => ?_))
    · show ((171 == 171 && decide (2400 ≤ 2400 + k)) && decide (2400 + k < 3000)) = true
      rw [Bool.and_eq_true, Bool.and_eq_true]
      exact ⟨⟨rfl, decide_eq_true (by omega)⟩, decide_eq_true (by omega)⟩
    · rw [g1 i (by omega), sI_n (Or.inr (by omega))]
    · by_cases z : i = k
      · subst z; rw [g1 i (by omega), sI_e]
      · exact g2 i (by omega) h2
theorem Mo_isWell_o {E : mEn} {d : Nat} {Q : mPost} {τ : mSt} (h : τ.1 166 12 = 0) : WP E (d + 1) mMo_isWell 0 [.ref 166] [] τ Q = Q (some (.int 1)) (sI (sI τ 166 10 0) 166 11 (-1)) := by
  rw [bMo_isWell_0, sI_n (Or.inr (by decide)), h, ite_nn rfl, bMo_isWell_16, bMo_isWell_24, sI_n (Or.inr (by decide)), sI_n (Or.inr (by decide)), h, if_pos rfl, bMo_isWell_43, bMo_isWell_48 (Or.inr rfl)]
theorem Mo_isWell_b {E : mEn} {d : Nat} {Q : mPost} {τ : mSt} {e : Nat × Nat} (h : MBad τ e) : WP E (d + 1) mMo_isWell 0 [.ref 166] [] τ Q = Q (some (.int 0)) (sI (sI (sI τ 166 10 (nI e.1)) 166 11 (nI e.2)) 166 0 (nI 10)) := by
  have hn := (MBad_n h).1
  rw [bMo_isWell_0, sI_n (Or.inr (by decide)), if_pos hn, bMo_isWell_20, sI_n (Or.inr (by decide)), h.2.1, bMo_isWell_24, sI_n (Or.inr (by decide)), sI_n (Or.inr (by decide)), if_neg hn, h.1, bMo_isWell_34, bMo_no_0, tl_s, bMo_isWell_40, if_pos rfl, bMo_isWell_47, bMo_isWell_48 (Or.inl rfl)]
def SOp (o k : Nat) : Bool := o == 166 && decide (8 ≤ k) && decide (k ≤ 19)
theorem Mo_opens {E : mEn} {d : Nat} {Q : mPost} {τ : mSt} {n m most : Nat} (h8 : τ.1 166 8 = nI m) (hm : m ≤ 900) (hn : n ≤ m) (hn2 : n ≤ most) (hmo : most < 2 ^ 31) (hb : ∀ k, isBy (τ.1 170 k)) (hQ : ∀ υ, qt SOp τ υ → MOk υ (τ.1 170) n 0 → υ.1 166 8 = 0 → Q (some (.int 1)) υ) : WP E (d + 2) mMo_opens 0 [.ref 166, .int (nI n), .int (nI most)] [] τ Q := by
  rw [bMo_opens_0, if_neg (nI_pos (by omega)), bMo_opens_4, h8, if_neg (nI_nlt hn (by omega)), bMo_opens_12, if_pos (nI_le hn2 hmo), bMo_opens_23]
  refine Mo_next (T := τ.1 170) (n := n) (q := 0) hb rfl rfl rfl (by omega) (by omega) (fun υ q1 g => ?_)
  rw [tl_n, bMo_opens_47]
  have q2 : qt SOp τ (sI (sI (sI (sI τ 166 9 (nI n)) 166 8 0) 166 16 0) 166 12 0) := qt_sI (qt_sI (qt_sI (qt_sI qt_rf rfl) rfl) rfl) rfl
  refine hQ υ (qt_tr q2 (qt_mono q1 (fun o k h => ?_))) ⟨(q1 166 12 rfl).1, g, funext fun k => (q1 170 k rfl).1, (q1 166 9 rfl).1, hb, by omega, by omega⟩ (q1 166 8 rfl).1
  simp only [S66, SOp, Bool.and_eq_true, decide_eq_true_eq, beq_iff_eq] at h ⊢; omega
theorem CXc_0 : CXc (fun _ => 0) := ⟨0, 0, 0, 0, by omega, by omega, by omega, by omega, rfl, rfl, rfl, rfl, fun _ _ _ => ⟨rfl, rfl, rfl⟩, fun _ _ _ => rfl, rfl⟩
def SMt (o k : Nat) : Bool := (o == 166 && (k == 0 || k == 1 || (decide (8 ≤ k) && decide (k ≤ 19)))) || o == 171 || o == 173
def SMu (o k : Nat) : Bool := (o == 166 && (k == 0 || k == 1 || (decide (8 ≤ k) && decide (k ≤ 19)))) || (o == 171 && decide (2400 ≤ k) && decide (k < 3000)) || (o == 173 && decide (80 ≤ k) && decide (k < 100))
theorem SMu_t {o k : Nat} (h : SMu o k = true) : SMt o k = true := by
  simp only [SMu, SMt, Bool.or_eq_true, Bool.and_eq_true, decide_eq_true_eq, beq_iff_eq] at h ⊢; omega
theorem Mo_town {E : mEn} {d : Nat} {Q : mPost} {τ : mSt} {T : Nat → Int32} {w : Nat → Int64} {n m : Nat} {u2 : Value} (h7 : τ.1 170 = T) (hw : ∀ j, j < 20 → τ.2 173 (80 + j) = w j) (h8 : τ.1 166 8 = nI m) (hm : m ≤ 900) (hn : n ≤ m) (hb : ∀ k, isBy (T k))
    (h1 : ∀ c' w' υ, pTown T n 900 (fun _ => 0) w 0 = .ok (c', w') → qt SMt τ υ → υ.1 166 0 = 0 → υ.1 166 8 = 0 → υ.1 166 10 = 0 → υ.1 166 11 = -1 → (∀ j, j < 600 → υ.1 171 j = c' j) → (∀ j, j < 20 → υ.2 173 j = w' j) → (∀ j, 600 ≤ j → j < 2400 → υ.1 171 j = τ.1 171 j) → (∀ j, 20 ≤ j → j < 80 → υ.2 173 j = τ.2 173 j) → Q (some (.int (c' 2))) υ)
    (h2 : ∀ e υ, pTown T n 900 (fun _ => 0) w 0 = .error e → qt SMu τ υ → υ.1 166 0 = nI 10 → υ.1 166 8 = 0 → υ.1 166 10 = nI e.1 → υ.1 166 11 = nI e.2 → Q (some (.int (-1))) υ) : WP E (d + 9) mMo_town 0 [.ref 166, .int (nI n), u2] [] τ Q := by
  subst h7
  rw [bMo_town_0]
  have q0 : qt SMu τ (sI (sI τ 166 1 0) 166 0 0) := qt_sI (qt_sI qt_rf rfl) rfl
  have z0 : (sI (sI τ 166 1 0) 166 0 0).1 166 0 = 0 := rfl
  have z8 : (sI (sI τ 166 1 0) 166 0 0).1 166 8 = nI m := h8
  have z7 : (sI (sI τ 166 1 0) 166 0 0).1 170 = τ.1 170 := rfl
  have zw : (sI (sI τ 166 1 0) 166 0 0).2 = τ.2 := rfl
  generalize sI (sI τ 166 1 0) 166 0 0 = τ0 at *
  refine Mo_opens z8 hm hn (by omega) (by omega) (by rw [z7]; exact hb) (fun φ q1 g1 i8 => ?_)
  rw [z7] at g1
  rw [tl_s, bMo_town_18, if_pos i10, bMo_town_23]
  have q1' : qt SMu τ φ := qt_tr q0 (qt_mono q1 (fun o k h => by simp only [SOp, SMu, Bool.or_eq_true, Bool.and_eq_true, decide_eq_true_eq, beq_iff_eq] at h ⊢; omega))
  refine Mo_town_clear 600 0 φ (by omega) (fun ψ a2 q2 g2 g3 => ?_)
  have q2' : qt SMu τ ψ := qt_tr q1' (qt_mono q2 (fun o k h => by simp only [SMu, Bool.or_eq_true, Bool.and_eq_true, decide_eq_true_eq, beq_iff_eq] at h ⊢; omega))
  have M2 : MD ψ (fun _ => 0) w := ⟨fun i hi => g3 i (by omega) hi, fun i hi => by
    rw [(q2 173 _ (by simp)).2, (q1 173 _ (by simp [SOp])).2, zw]; exact hw i hi⟩
  have g4 : MOk ψ (τ.1 170) n 0 := MOk_q g1 q2 (fun _ => by simp) (fun _ _ _ => by simp)
  refine Mo_town_loop 900 0 _ w ψ (by omega) g4 M2 CXc_0 (fun c' w' υ ep q3 i12 M3 => ?_) (fun e υ ep q3 g => ?_)
  all_goals
    have i0 : υ.1 166 0 = 0 := (q3 166 0 rfl).1.trans ((q2 166 0 rfl).1.trans ((q1 166 0 rfl).1.trans z0))
    have i8' : υ.1 166 8 = 0 := (q3 166 8 rfl).1.trans ((q2 166 8 rfl).1.trans i8)
    have q3' : qt SMu τ υ := qt_tr q2' (qt_mono q3 (fun o k h => by simp only [SMd, S66b, SMu, Bool.or_eq_true, Bool.and_eq_true, decide_eq_true_eq, beq_iff_eq] at h ⊢; omega))
  · rw [bMo_town_136, Mo_isWell_o i12, tl_s, bMo_town_140, if_pos i10, bMo_town_145]
    refine Mo_copy (a := 4) (b := 0) (by omega) (by omega) (by omega) (fun ω q4 e1 e2 => ?_)
    rw [tl_n, bMo_town_151, mOut_f (by omega) (by omega), if_neg (by decide)]
    have c3 : ∀ j, j < 600 → ω.1 171 j = c' j := fun j hj => by
      rw [e1, pk_cpy_in (by omega) (by omega), Nat.mul_zero, Nat.sub_zero]
      exact M3.1 j hj
    have w3 : ∀ j, j < 20 → ω.2 173 j = w' j := fun j hj => by
      rw [e2, pk_cpy_in (by omega) (by omega), Nat.mul_zero, Nat.sub_zero]
      exact M3.2 j hj
    have q5 : qt SMt τ (sI (sI υ 166 10 0) 166 11 (-1)) := qt_sI (qt_sI (qt_mono q3' (fun _ _ => SMu_t)) rfl) rfl
    rw [c3 2 (by omega)]
    refine h1 c' w' ω ep (qt_tr q5 (qt_mono q4 (fun o k h => ?_))) ((q4 166 0 rfl).1.trans i0) ((q4 166 8 rfl).1.trans i8') ((q4 166 10 rfl).1.trans rfl) ((q4 166 11 rfl).1.trans rfl) c3 w3 (fun j x1 x2 => ?_) (fun j x1 x2 => ?_)
    · simp only [SMt, Bool.or_eq_true, Bool.and_eq_true, decide_eq_true_eq, beq_iff_eq] at h ⊢; omega
    · rw [e1, pk_cpy_out (by omega)]
      exact (q3' 171 j (by simp only [SMu, Bool.or_eq_false_iff, Bool.and_eq_false_iff, beq_eq_false_iff_ne, decide_eq_false_iff_not, ne_eq]; omega)).1
    · rw [e2, pk_cpy_out (by omega)]
      exact (q3' 173 j (by simp only [SMu, Bool.or_eq_false_iff, Bool.and_eq_false_iff, beq_eq_false_iff_ne, decide_eq_false_iff_not, ne_eq]; omega)).2
  · rw [bMo_town_136, Mo_isWell_b g, tl_s, bMo_town_140, ite_nn rfl, bMo_town_143]
    exact h2 e _ ep (qt_sI (qt_sI (qt_sI q3' rfl) rfl) rfl) rfl i8' rfl rfl
