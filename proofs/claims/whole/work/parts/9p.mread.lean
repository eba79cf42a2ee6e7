/-! the reference reads a town: into block 4 -/
theorem Mo_isWord_a {E : mEn} {d : Nat} {Q : mPost} {τ : mSt} {x : Int64} (hQ : ∀ b : Int32, b = 0 ∨ b = 1 → Q (some (.int b)) τ) : WP E d mMo_isWord 0 [.ref 166, .long x, uu] [] τ Q := by
  rw [bMo_isWord_0]
  split
  · rw [bMo_isWord_21, bMo_isWord_22 (Or.inl rfl)]; exact hQ _ (Or.inl rfl)
  · rw [bMo_isWord_8]
    split
    · rw [bMo_isWord_21, bMo_isWord_22 (Or.inl rfl)]; exact hQ _ (Or.inl rfl)
    · rw [bMo_isWord_17, bMo_isWord_22 (Or.inr rfl)]; exact hQ _ (Or.inr rfl)
theorem Mo_isBy_a {E : mEn} {d : Nat} {Q : mPost} {τ : mSt} (hQ : ∀ b : Int32, b = 0 ∨ b = 1 → Q (some (.int b)) τ) : WP E (d + 1) mMo_isBy 0 [.ref 166] [] τ Q := by
  rw [bMo_isBy_0, Mo_spelled, tl_s, bMo_isBy_12]
  refine Mo_isWord_a (fun b hb => ?_)
  rw [tl_s, bMo_isBy_15 hb]
  exact hQ b hb
theorem Mo_isOn_a {E : mEn} {d : Nat} {Q : mPost} {τ : mSt} (hQ : ∀ b : Int32, b = 0 ∨ b = 1 → Q (some (.int b)) τ) : WP E (d + 1) mMo_isOn 0 [.ref 166] [] τ Q := by
  rw [bMo_isOn_0, Mo_spelled, tl_s, bMo_isOn_12]
  refine Mo_isWord_a (fun b hb => ?_)
  rw [tl_s, bMo_isOn_15 hb]
  exact hQ b hb
theorem Mo_isSlices_a {E : mEn} {d : Nat} {Q : mPost} {τ : mSt} (hQ : ∀ b : Int32, b = 0 ∨ b = 1 → Q (some (.int b)) τ) : WP E (d + 1) mMo_isSlices 0 [.ref 166] [] τ Q := by
  rw [bMo_isSlices_0, Mo_spelled, tl_s, bMo_isSlices_16]
  refine Mo_isWord_a (fun b hb => ?_)
  rw [tl_s, bMo_isSlices_19 hb]
  exact hQ b hb
theorem Mo_isFlour_a {E : mEn} {d : Nat} {Q : mPost} {τ : mSt} (hQ : ∀ b : Int32, b = 0 ∨ b = 1 → Q (some (.int b)) τ) : WP E (d + 1) mMo_isFlour 0 [.ref 166] [] τ Q := by
  rw [bMo_isFlour_0, Mo_spelled, tl_s, bMo_isFlour_15]
  refine Mo_isWord_a (fun b hb => ?_)
  rw [tl_s, bMo_isFlour_18 hb]
  exact hQ b hb
theorem Mo_isOf_a {E : mEn} {d : Nat} {Q : mPost} {τ : mSt} (hQ : ∀ b : Int32, b = 0 ∨ b = 1 → Q (some (.int b)) τ) : WP E (d + 1) mMo_isOf 0 [.ref 166] [] τ Q := by
  rw [bMo_isOf_0, Mo_spelled, tl_s, bMo_isOf_12]
  refine Mo_isWord_a (fun b hb => ?_)
  rw [tl_s, bMo_isOf_15 hb]
  exact hQ b hb
theorem Mo_isFrom_a {E : mEn} {d : Nat} {Q : mPost} {τ : mSt} (hQ : ∀ b : Int32, b = 0 ∨ b = 1 → Q (some (.int b)) τ) : WP E (d + 1) mMo_isFrom 0 [.ref 166] [] τ Q := by
  rw [bMo_isFrom_0, Mo_spelled, tl_s, bMo_isFrom_14]
  refine Mo_isWord_a (fun b hb => ?_)
  rw [tl_s, bMo_isFrom_17 hb]
  exact hQ b hb
theorem Mo_isTo_a {E : mEn} {d : Nat} {Q : mPost} {τ : mSt} (hQ : ∀ b : Int32, b = 0 ∨ b = 1 → Q (some (.int b)) τ) : WP E (d + 1) mMo_isTo 0 [.ref 166] [] τ Q := by
  rw [bMo_isTo_0, Mo_spelled, tl_s, bMo_isTo_12]
  refine Mo_isWord_a (fun b hb => ?_)
  rw [tl_s, bMo_isTo_15 hb]
  exact hQ b hb
theorem Mo_isFor_a {E : mEn} {d : Nat} {Q : mPost} {τ : mSt} (hQ : ∀ b : Int32, b = 0 ∨ b = 1 → Q (some (.int b)) τ) : WP E (d + 1) mMo_isFor 0 [.ref 166] [] τ Q := by
  rw [bMo_isFor_0, Mo_spelled, tl_s, bMo_isFor_13]
  refine Mo_isWord_a (fun b hb => ?_)
  rw [tl_s, bMo_isFor_16 hb]
  exact hQ b hb
theorem Mo_isEnd_a {E : mEn} {d : Nat} {Q : mPost} {τ : mSt} (hQ : ∀ b : Int32, b = 0 ∨ b = 1 → Q (some (.int b)) τ) : WP E (d + 1) mMo_isEnd 0 [.ref 166] [] τ Q := by
  rw [bMo_isEnd_0, Mo_spelled, tl_s, bMo_isEnd_13]
  refine Mo_isWord_a (fun b hb => ?_)
  rw [tl_s, bMo_isEnd_16 hb]
  exact hQ b hb
theorem Mo_sign_a {E : mEn} {d : Nat} {Q : mPost} {τ : mSt} {x : Int32} (hQ : ∀ b : Int32, b = 0 ∨ b = 1 → Q (some (.int b)) τ) : WP E d mMo_isSign 0 [.ref 166, .int x] [] τ Q := by
  rw [bMo_isSign_0]
  split
  · rw [bMo_isSign_20, bMo_isSign_21 (Or.inl rfl)]; exact hQ _ (Or.inl rfl)
  · rw [bMo_isSign_8]
    split
    · rw [bMo_isSign_20, bMo_isSign_21 (Or.inl rfl)]; exact hQ _ (Or.inl rfl)
    · rw [bMo_isSign_16, bMo_isSign_21 (Or.inr rfl)]; exact hQ _ (Or.inr rfl)
def SMd (o k : Nat) : Bool := S66b o k || (o == 171 && decide (2400 ≤ k) && decide (k < 3000)) || (o == 173 && decide (80 ≤ k) && decide (k < 100))
theorem S66_M {o k : Nat} (h : S66b o k = true) : SMd o k = true := by simp only [SMd, h, Bool.true_or]
theorem SMd_171 {j : Nat} (h : j < 600) : SMd 171 (2400 + j) = true := by
  unfold SMd
  rw [Bool.or_eq_true, Bool.or_eq_true]
  refine Or.inl (Or.inr ?_)
  rw [Bool.and_eq_true, Bool.and_eq_true]
  exact ⟨⟨rfl, decide_eq_true (by omega)⟩, decide_eq_true (by omega)⟩
theorem S73_M {m o k : Nat} (hm : m < 20) (h : S73 m o k = true) : SMd o k = true := by
  simp only [S73, Bool.or_eq_true, Bool.and_eq_true, beq_iff_eq] at h
  rcases h with h | h
  · exact S66_M h
  · simp only [SMd, Bool.or_eq_true, Bool.and_eq_true, decide_eq_true_eq, beq_iff_eq]; omega
/-- the draft of the reference is c, w -/
def MD (τ : mSt) (c : Nat → Int32) (w : Nat → Int64) : Prop := (∀ j, j < 600 → τ.1 171 (2400 + j) = c j) ∧ ∀ j, j < 20 → τ.2 173 (80 + j) = w j
def CI (c : Nat → Int32) (np no nl nk : Nat) : Prop := np ≤ 8 ∧ no ≤ 4 ∧ nl ≤ 8 ∧ nk ≤ 16 ∧ c 0 = nI np ∧ c 1 = nI no ∧ c 2 = nI nl ∧ c 3 = nI nk ∧ DZ c np no
def CXc (c : Nat → Int32) : Prop := ∃ np no nl nk, CI c np no nl nk
theorem CI_N {c : Nat → Int32} {np no nl nk : Nat} (h : CI c np no nl nk) : cN c 0 = np ∧ cN c 1 = no ∧ cN c 2 = nl ∧ cN c 3 = nk := by
  obtain ⟨h1, h2, h3, h4, c0, c1, c2, c3, -⟩ := h
  unfold cN
  rw [c0, c1, c2, c3]
  exact ⟨nI_clamp (by omega), nI_clamp (by omega), nI_clamp (by omega), nI_clamp (by omega)⟩
theorem MD_B {τ : mSt} {c : Nat → Int32} {w : Nat → Int64} {np no nl nk : Nat} (h : MD τ c w) (g : CI c np no nl nk) : BOk τ 4 w np no nl := by
  obtain ⟨h1, h2, h3, h4, c0, c1, c2, c3, -⟩ := g
  exact ⟨by omega, h1, h2, h3, (h.1 0 (by omega)).trans c0, (h.1 1 (by omega)).trans c1, (h.1 2 (by omega)).trans c2, h.2⟩
theorem MD_s {τ : mSt} {c : Nat → Int32} {w : Nat → Int64} {j : Nat} {v : Int32} (h : MD τ c w) : MD (sI τ 171 (2400 + j) v) (upd c j v) w :=
  ⟨fun i hi => by
    by_cases e : i = j
    · subst e; rw [sI_e, upd_e]
    · rw [sI_n (Or.inr (by omega)), upd_n e]; exact h.1 i hi, fun i hi => h.2 i hi⟩
theorem MD_q {σ τ : mSt} {c : Nat → Int32} {w : Nat → Int64} (h : MD σ c w) (q : qt S66b σ τ) : MD τ c w :=
  ⟨fun i hi => ((q 171 _ rfl).1).trans (h.1 i hi), fun i hi => ((q 173 _ rfl).2).trans (h.2 i hi)⟩
theorem MD_73 {σ τ : mSt} {c : Nat → Int32} {w : Nat → Int64} {m : Nat} {x : Int64} (h : MD σ c w) (q : qt (S73 m) σ τ) (e : τ.2 173 (80 + m) = x) : MD τ c (updL w m x) :=
  ⟨fun i hi => ((q 171 _ (by simp [S73, S66b])).1).trans (h.1 i hi), fun i hi => by
    by_cases z : i = m
    · subst z; rw [updL_e]; exact e
    · rw [updL_n z, (q 173 (80 + i) (by simp only [S73, S66b, Bool.or_eq_false_iff, Bool.and_eq_false_iff, beq_eq_false_iff_ne, decide_eq_false_iff_not, ne_eq]; omega)).2]; exact h.2 i hi⟩
theorem MBad_s {τ : mSt} {e : Nat × Nat} {j : Nat} {v : Int32} (h : MBad τ e) : MBad (sI τ 171 j v) e := by
  obtain ⟨h1, h2, h3⟩ := h
  exact ⟨(sI_n (Or.inl (by decide))).trans h1, (sI_n (Or.inl (by decide))).trans h2, h3⟩
theorem MOk_s {τ : mSt} {T : Nat → Int32} {n q j : Nat} {v : Int32} (h : MOk τ T n q) : MOk (sI τ 171 j v) T n q := MOk_q (S := fun o _ => o == 171) h (qt_sI qt_rf rfl) (fun _ => rfl) (fun _ _ _ => rfl)
theorem qt_Ms {σ τ : mSt} {j : Nat} {v : Int32} (h : qt SMd σ τ) (hj : j < 600) : qt SMd σ (sI τ 171 (2400 + j) v) := qt_sI h (SMd_171 hj)
theorem qt_M {σ τ : mSt} (h : qt S66b σ τ) : qt SMd σ τ := qt_mono h (fun _ _ => S66_M)
theorem upd_id {c : Nat → Int32} {k : Nat} {v : Int32} (h : c k = v) : upd c k v = c := funext fun j => by
  by_cases e : j = k
  · subst e; rw [upd_e]; exact h.symm
  · rw [upd_n e]
def tSg (c : Nat → Int32) (w : Nat → Int64) (r : Except (Nat × Nat) Nat) : Except (Nat × Nat) ((Nat → Int32) × (Nat → Int64) × Nat) := match r with
  | .error e => .error e
  | .ok q => .ok (c, w, q)
theorem tSg_e {T : Nat → Int32} {n q : Nat} {c : Nat → Int32} {w : Nat → Int64} : (if isS T n q 59 then .ok (c, w, bh T n q) else .error (er T n q)) = tSg c w (pSg T n q) := by
  unfold tSg pSg
  by_cases z : isS T n q 59 = true
  · rw [if_pos z, if_pos z]
  · rw [if_neg z, if_neg z]
theorem Mo_readPerson {E : mEn} {d : Nat} {Q : mPost} {τ : mSt} {T : Nat → Int32} {n q : Nat} {c : Nat → Int32} {w : Nat → Int64} {u1 : Value} (h : MOk τ T n q) (hM : MD τ c w) (hC : CXc c) (h1 : ∀ c' w' q', pPerson T n c w q = tSg c' w' (pSg T n q') → ∀ υ, qt SMd τ υ → MOk υ T n q' → MD υ c' w' → CXc c' → Q none υ) (h2 : ∀ e, pPerson T n c w q = .error e → ∀ υ, qt SMd τ υ → MBad υ e → Q none υ) : WP E (d + 6) mMo_readPerson 0 [.ref 166, u1] [] τ Q := by
  obtain ⟨np, no, nl, nk, hC⟩ := hC
  obtain ⟨e0, e1, e2, e3⟩ := CI_N hC
  have hB := MD_B hM hC
  obtain ⟨a1, a2, a3, a4, c0, c1, c2, c3, z1, z2, z3⟩ := hC
  unfold pPerson at h1 h2
  rw [e0, e1, e2] at h1 h2
  rw [bMo_readPerson_0, mOut_f (by omega) (by omega), if_neg (by decide), show τ.1 171 2400 = nI np from (hM.1 0 (by omega)).trans c0]
  by_cases f8 : np = 8
  · rw [if_pos f8] at h2
    rw [ite_nn (by rw [f8]), bMo_readPerson_15, h.2.1.2.1]
    refine Mo_fail h (by omega) (by omega) (fun υ q1 g => ?_)
    rw [tl_n, bMo_readPerson_25, if_neg (MBad_n g).2, bMo_readPerson_32]
    exact h2 _ rfl υ (qt_M q1) g
  rw [if_neg f8] at h1 h2
  rw [if_pos (fun g => f8 ((nI_eq (by omega) (by omega)).mp g)), bMo_readPerson_25, h.1, if_pos (Int32.le_refl _), bMo_readPerson_33]
  refine Mo_readNew (k := np) (by omega) h hB (fun x q' ex φ q1 g1 gx => ?_) (fun e ee υ q1 g => ?_)
  rotate_left
  · rw [ee] at h2
    rw [tl_n, bMo_readPerson_38, if_pos (MBad_n g).1, bMo_readPerson_74, if_pos (MBad_n g).1, bMo_readPerson_93]
    exact h2 _ rfl υ (qt_M q1) g
  rw [ex] at h1 h2
  dsimp only at h1 h2
  have m1 : MD φ c (updL w (np) x) := MD_73 hM q1 gx
  have s1 : qt SMd τ φ := qt_mono q1 (fun _ _ => S73_M (by omega))
  rw [tl_n, bMo_readPerson_38, g1.1, ite_nn rfl, bMo_readPerson_45, Mo_isPurse g1, tl_s, bMo_readPerson_49]
  have fin : ∀ a q2 ψ, pOpt T n 1 999 q' = .ok (a, q2) → qt SMd τ ψ → MOk ψ T n q2 → MD ψ (upd c (6 + np) (nI a)) (updL w (np) x) → WP E (d + 6) mMo_readPerson 74 [.ref 166, .int (nI np)] [] ψ Q := fun a q2 ψ ea qs g m => by
    rw [ea] at h1
    dsimp only at h1
    have e9 : ψ.1 171 2400 = nI np := (m.1 0 (by omega)).trans (by rw [upd_n (by omega)]; exact c0)
    rw [bMo_readPerson_74, g.1, ite_nn rfl, bMo_readPerson_81, mOut_f (by omega) (by omega), if_neg (by decide), if_neg (by decide), e9, nI_1, bMo_readPerson_93]
    refine h1 (cP c np (nI a)) (updL w (np) x) q2 tSg_e _ (qt_Ms (j := 0) qs (by omega)) (MOk_s g) (MD_s (j := 0) m) ⟨np + 1, no, nl, nk, by omega, a2, a3, a4, upd_e, (upd_n (by omega)).trans ((upd_n (by omega)).trans c1), (upd_n (by omega)).trans ((upd_n (by omega)).trans c2), (upd_n (by omega)).trans ((upd_n (by omega)).trans c3), fun p a b => ?_, fun k a b => ?_, ?_⟩
    all_goals unfold cP
    · rw [upd_n (by omega), upd_n (by omega), upd_n (by omega), upd_n (by omega), upd_n (by omega), upd_n (by omega)]
      exact z1 p (by omega) b
    · rw [upd_n (by omega), upd_n (by omega)]
      exact z2 k (by omega) b
    · rw [upd_n (by omega), upd_n (by omega)]
      exact z3
  by_cases y : isW T n q' 1 = true
  · rw [b2i_t y, if_neg i10, bMo_readPerson_52]
    refine Mo_nx g1 (fun ψ q2 g2 => ?_)
    rw [tl_n, bMo_readPerson_56, show (0 : Int32) = nI 0 from rfl, nI_add, show 2406 + np = 2400 + (6 + np) by omega]
    refine Mo_count g2 (by omega) (by omega) (fun v q'' ev ω q3 g3 => ?_) (fun e ee ω q3 g3 => ?_)
    · rw [tl_s, bMo_readPerson_73, mOut_f (by omega) (by omega), if_neg (by decide), nI_clamp (by omega)]
      exact fin v q'' _ (by unfold pOpt; rw [if_pos y]; exact ev) (qt_Ms (qt_tr s1 (qt_M (qt_tr q2 q3))) (by omega)) (MOk_s g3) (MD_s (MD_q m1 (qt_tr q2 q3)))
    · have ep : pOpt T n 1 999 q' = .error e := by unfold pOpt; rw [if_pos y]; exact ee
      rw [ep] at h2
      rw [tl_s, bMo_readPerson_73, mOut_f (by omega) (by omega), if_neg (by decide), nI_clamp (by omega), bMo_readPerson_74, if_pos (MBad_n (MBad_s g3)).1, bMo_readPerson_93]
      exact h2 _ rfl _ (qt_Ms (qt_tr s1 (qt_M (qt_tr q2 q3))) (by omega)) (MBad_s g3)
  · rw [b2i_f y, if_pos rfl]
    refine fin 0 q' φ (by unfold pOpt; rw [if_neg y]) s1 g1 ?_
    rw [upd_id (v := nI 0) ((z1 np (by omega) (by omega)).1)]
    exact m1
theorem Mo_readOven {E : mEn} {d : Nat} {Q : mPost} {τ : mSt} {T : Nat → Int32} {n q : Nat} {c : Nat → Int32} {w : Nat → Int64} {u1 : Value} (h : MOk τ T n q) (hM : MD τ c w) (hC : CXc c) (h1 : ∀ c' w' q', pOven T n c w q = tSg c' w' (pSg T n q') → ∀ υ, qt SMd τ υ → MOk υ T n q' → MD υ c' w' → CXc c' → Q none υ) (h2 : ∀ e, pOven T n c w q = .error e → ∀ υ, qt SMd τ υ → MBad υ e → Q none υ) : WP E (d + 6) mMo_readOven 0 [.ref 166, u1] [] τ Q := by
  obtain ⟨np, no, nl, nk, hC⟩ := hC
  obtain ⟨e0, e1, e2, e3⟩ := CI_N hC
  have hB := MD_B hM hC
  obtain ⟨a1, a2, a3, a4, c0, c1, c2, c3, z1, z2, z3⟩ := hC
  unfold pOven at h1 h2
  rw [e0, e1, e2] at h1 h2
  rw [bMo_readOven_0, mOut_f (by omega) (by omega), if_neg (by decide), show τ.1 171 2401 = nI no from (hM.1 1 (by omega)).trans c1]
  by_cases f8 : no = 4
  · rw [if_pos f8] at h2
    rw [ite_nn (by rw [f8]), bMo_readOven_14, h.2.1.2.1]
    refine Mo_fail h (by omega) (by omega) (fun υ q1 g => ?_)
    rw [tl_n, bMo_readOven_24, if_neg (MBad_n g).2, bMo_readOven_31]
    exact h2 _ rfl υ (qt_M q1) g
  rw [if_neg f8] at h1 h2
  rw [if_pos (fun g => f8 ((nI_eq (by omega) (by omega)).mp g)), bMo_readOven_24, h.1, if_pos (Int32.le_refl _), bMo_readOven_32, nI_add]
  refine Mo_readNew (k := 8 + no) (by omega) h hB (fun x q' ex φ q1 g1 gx => ?_) (fun e ee υ q1 g => ?_)
  rotate_left
  · rw [ee] at h2
    rw [tl_n, bMo_readOven_40, if_pos (MBad_n g).1, bMo_readOven_75, if_pos (MBad_n g).1, bMo_readOven_94]
    exact h2 _ rfl υ (qt_M q1) g
  rw [ex] at h1 h2
  dsimp only at h1 h2
  have m1 : MD φ c (updL w (8 + no) x) := MD_73 hM q1 gx
  have s1 : qt SMd τ φ := qt_mono q1 (fun _ _ => S73_M (by omega))
  rw [tl_n, bMo_readOven_40, g1.1, ite_nn rfl, bMo_readOven_47, Mo_isRain g1, tl_s, bMo_readOven_51]
  have fin : ∀ a q2 ψ, pOpt T n 3 16 q' = .ok (a, q2) → qt SMd τ ψ → MOk ψ T n q2 → MD ψ (upd c (30 + no) (nI a)) (updL w (8 + no) x) → WP E (d + 6) mMo_readOven 75 [.ref 166, .int (nI no)] [] ψ Q := fun a q2 ψ ea qs g m => by
    rw [ea] at h1
    dsimp only at h1
    have e9 : ψ.1 171 2401 = nI no := (m.1 1 (by omega)).trans (by rw [upd_n (by omega)]; exact c1)
    rw [bMo_readOven_75, g.1, ite_nn rfl, bMo_readOven_82, mOut_f (by omega) (by omega), if_neg (by decide), if_neg (by decide), e9, nI_1, bMo_readOven_94]
    refine h1 (cV c no (nI a)) (updL w (8 + no) x) q2 tSg_e _ (qt_Ms (j := 1) qs (by omega)) (MOk_s g) (MD_s (j := 1) m) ⟨np, no + 1, nl, nk, a1, by omega, a3, a4, (upd_n (by omega)).trans ((upd_n (by omega)).trans c0), upd_e, (upd_n (by omega)).trans ((upd_n (by omega)).trans c2), (upd_n (by omega)).trans ((upd_n (by omega)).trans c3), fun p a b => ?_, fun k a b => ?_, ?_⟩
    all_goals unfold cV
    · rw [upd_n (by omega), upd_n (by omega), upd_n (by omega), upd_n (by omega), upd_n (by omega), upd_n (by omega)]
      exact z1 p (by omega) b
    · rw [upd_n (by omega), upd_n (by omega)]
      exact z2 k (by omega) b
    · rw [upd_n (by omega), upd_n (by omega)]
      exact z3
  by_cases y : isW T n q' 3 = true
  · rw [b2i_t y, if_neg i10, bMo_readOven_54]
    refine Mo_nx g1 (fun ψ q2 g2 => ?_)
    rw [tl_n, bMo_readOven_58, show (0 : Int32) = nI 0 from rfl, nI_add, show 2430 + no = 2400 + (30 + no) by omega]
    refine Mo_count g2 (by omega) (by omega) (fun v q'' ev ω q3 g3 => ?_) (fun e ee ω q3 g3 => ?_)
    · rw [tl_s, bMo_readOven_74, mOut_f (by omega) (by omega), if_neg (by decide), nI_clamp (by omega)]
      exact fin v q'' _ (by unfold pOpt; rw [if_pos y]; exact ev) (qt_Ms (qt_tr s1 (qt_M (qt_tr q2 q3))) (by omega)) (MOk_s g3) (MD_s (MD_q m1 (qt_tr q2 q3)))
    · have ep : pOpt T n 3 16 q' = .error e := by unfold pOpt; rw [if_pos y]; exact ee
      rw [ep] at h2
      rw [tl_s, bMo_readOven_74, mOut_f (by omega) (by omega), if_neg (by decide), nI_clamp (by omega), bMo_readOven_75, if_pos (MBad_n (MBad_s g3)).1, bMo_readOven_94]
      exact h2 _ rfl _ (qt_Ms (qt_tr s1 (qt_M (qt_tr q2 q3))) (by omega)) (MBad_s g3)
  · rw [b2i_f y, if_pos rfl]
    refine fin 0 q' φ (by unfold pOpt; rw [if_neg y]) s1 g1 ?_
    rw [upd_id (v := nI 0) ((z2 no (by omega) (by omega)))]
    exact m1
