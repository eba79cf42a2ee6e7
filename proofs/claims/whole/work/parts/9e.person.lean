/-! a part of a town's text, by the class -/
theorem Te_endsPart {E : mEn} {d : Nat} {Q : mPost} {τ : mSt} {T : Nat → Int32} {n q : Nat} (h : COk τ T n q) (h1 : isS T n q 59 = true → ∀ υ, qt S6b τ υ → COk υ T n (bh T n q) → Q (some (.int 1)) υ) (h2 : ¬ isS T n q 59 = true → ∀ υ, qt S6b τ υ → CBad υ (er T n q) → Q (some (.int 0)) υ) : WP E (d + 3) mTe_endsPart 0 [.ref 5] [] τ Q := by
  rw [bTe_endsPart_0]
  refine To_takeSign h (fun z υ q1 g => ?_) (fun z υ q1 g => ?_)
  · rw [tl_n, bTe_endsPart_9, g.1, ite_nn rfl, bTe_endsPart_19, bTe_endsPart_24 (Or.inr rfl)]
    exact h1 z υ q1 g
  · rw [tl_n, bTe_endsPart_9, if_pos (CBad_n g), bTe_endsPart_23, bTe_endsPart_24 (Or.inl rfl)]
    exact h2 z υ q1 g
theorem Te_endsPart_b {E : mEn} {d : Nat} {Q : mPost} {τ : mSt} (h : ¬ τ.1 6 9 = 0) : WP E (d + 3) mTe_endsPart 0 [.ref 5] [] τ Q = Q (some (.int 0)) τ := by
  rw [bTe_endsPart_0, To_takeSign_b h, tl_n, bTe_endsPart_9, if_pos h, bTe_endsPart_23, bTe_endsPart_24 (Or.inl rfl)]
/-- a part is begun: where there is room, and behind its word -/
theorem Te_beginPart {E : mEn} {d : Nat} {Q : mPost} {τ : mSt} {T : Nat → Int32} {n q k : Nat} (h : COk τ T n q) (hk : k < 28) (hw : isW T n q k = true) (h1 : ∀ υ, qt S6b τ υ → COk υ T n (bh T n q) → Q none υ) : WP E (d + 3) mTe_beginPart 0 [.ref 5, .int (nI k), .int 1] [] τ Q := by
  rw [bTe_beginPart_0, if_pos i10, bTe_beginPart_13]
  refine To_takeWord h hk (fun _ υ q1 g => ?_) (fun z => absurd hw z)
  rw [tl_n, bTe_beginPart_21]
  exact h1 υ q1 g
theorem Te_beginPart_f {E : mEn} {d : Nat} {Q : mPost} {τ : mSt} {T : Nat → Int32} {n q k : Nat} (h : COk τ T n q) (h1 : ∀ υ, qt S6b τ υ → CBad υ (6, pl T n q) → Q none υ) : WP E (d + 3) mTe_beginPart 0 [.ref 5, .int (nI k), .int 0] [] τ Q := by
  rw [bTe_beginPart_0, ite_nn rfl, bTe_beginPart_4]
  refine To_blame h (by omega) (by omega) (fun υ q1 g => ?_)
  rw [tl_n, bTe_beginPart_13, To_takeWord_b (CBad_n g), tl_n, bTe_beginPart_21]
  exact h1 υ q1 g
/-- the class's draft is c and w; rows of c that hold nothing yet are 0 -/
def DZ (c : Nat → Int32) (np no : Nat) : Prop := (∀ p, np ≤ p → p < 8 → c (6 + p) = 0 ∧ c (14 + p) = 0 ∧ c (22 + p) = 0) ∧ (∀ k, no ≤ k → k < 4 → c (30 + k) = 0) ∧ c 322 = 0
def DR (τ : mSt) (c : Nat → Int32) (w : Nat → Int64) : Prop := ∃ np no nl nk, TRel τ 35 c w np no nl nk 0 ∧ τ.1 35 17 = 0 ∧ nk ≤ 16 ∧ DZ c np no
def SRd (o k : Nat) : Bool := S6b o k || o == 9 || STc 35 o k
theorem S6b_R {o k : Nat} (h : S6b o k = true) : SRd o k = true := by simp only [SRd, h, Bool.true_or]
theorem STc_R {o k : Nat} (h : STc 35 o k = true) : SRd o k = true := by simp only [SRd, h, Bool.or_true]
theorem DR_q {σ τ : mSt} {c : Nat → Int32} {w : Nat → Int64} {S : Nat → Nat → Bool} (h : DR σ c w) (g : qt S σ τ) (hS : ∀ o k, 35 ≤ o → o < 60 → S o k = false) : DR τ c w := by
  obtain ⟨np, no, nl, nk, h1, h2, h3, h4⟩ := h
  exact ⟨np, no, nl, nk, TRel_q g (fun j k hj _ _ => hS _ _ (by omega) (by omega)) h1, (g 35 17 (hS _ _ (by omega) (by omega))).1.trans h2, h3, h4⟩
theorem S6b_D {o k : Nat} (h1 : 35 ≤ o) : S6b o k = false := by
  simp only [S6b, Bool.and_eq_false_iff, beq_eq_false_iff_ne, decide_eq_false_iff_not]; omega
theorem TRel_N {τ : mSt} {t np no nl nk dy : Nat} {c : Nat → Int32} {w : Nat → Int64} (h : TRel τ t c w np no nl nk dy) : NOk τ t w np no nl ∧ cN c 0 = np ∧ cN c 1 = no ∧ cN c 2 = nl ∧ cN c 3 = nk := by
  obtain ⟨⟨b1, b2, b3, b4, b5⟩, ⟨t1, c1⟩, ⟨t2, c2⟩, ⟨t3, c3⟩, ⟨t4, c4⟩, -, -, -, -, -, -, -, ⟨n1, n2, n3⟩, -⟩ := h
  refine ⟨⟨b1, b2, b3, n1, n2, n3⟩, ?_, ?_, ?_, ?_⟩ <;> unfold cN
  · rw [c1, nI_clamp (by omega)]
  · rw [c2, nI_clamp (by omega)]
  · rw [c3, nI_clamp (by omega)]
  · rw [c4, nI_clamp (by omega)]
theorem COk_q {σ τ : mSt} {T : Nat → Int32} {n q : Nat} {S : Nat → Nat → Bool} (h : COk σ T n q) (g : qt S σ τ) (h1 : ∀ k, S 6 k = false) (h2 : ∀ k, S 7 k = false) (h3 : ∀ k, S 8 k = false) : COk τ T n q := by
  obtain ⟨a1, ⟨b1, b2, b3, b4, b5, b6⟩, a3, a4, a5, a6, a7⟩ := h
  have e : ∀ k, τ.1 6 k = σ.1 6 k := fun k => (g 6 k (h1 k)).1
  have e2 : ∀ k, τ.2 6 k = σ.2 6 k := fun k => (g 6 k (h1 k)).2
  unfold COk CT
  simp only [e, e2]
  exact ⟨a1, ⟨b1, b2, b3, b4, b5, b6⟩, (funext fun k => (g 7 k (h2 k)).1).trans a3, a4, fun k hk => ((g 8 k (h3 k)).2).trans (a5 k hk), a6, a7⟩
def pOpt (T : Nat → Int32) (n k hi q : Nat) : Except (Nat × Nat) (Nat × Nat) := if isW T n q k then pNum T n 0 hi (bh T n q) else .ok (0, q)
def pPerson (T : Nat → Int32) (n : Nat) (c : Nat → Int32) (w : Nat → Int64) (q : Nat) : Except (Nat × Nat) ((Nat → Int32) × (Nat → Int64) × Nat) :=
  if cN c 0 = 8 then .error (6, pl T n q) else
  match pNew T n w (cN c 0) (cN c 1) (cN c 2) (bh T n q) with
  | .error e => .error e
  | .ok (x, q1) =>
    match pOpt T n 1 999 q1 with
    | .error e => .error e
    | .ok (a, q2) => if isS T n q2 59 then .ok (cP c (cN c 0) (nI a), updL w (cN c 0) x, bh T n q2) else .error (er T n q2)
theorem rP57_b {E : mEn} {d : Nat} {Q : mPost} {τ : mSt} {x : Int64} {a : Int32} {u : Value} (h : ¬ τ.1 6 9 = 0) : WP E (d + 4) mTe_readPerson 57 [.ref 5, .ref 35, .long x, uu, u] [.int a] τ Q = Q none τ := by
  rw [bTe_readPerson_57 T35, Te_endsPart_b h, tl_s, bTe_readPerson_63 T35, if_pos rfl, bTe_readPerson_73 T35]
theorem rP30_b {E : mEn} {d : Nat} {Q : mPost} {τ : mSt} {x : Int64} {u2 u3 u4 : Value} (h : ¬ τ.1 6 9 = 0) : WP E (d + 4) mTe_readPerson 30 [.ref 5, .ref 35, u2, u3, u4] [.long x] τ Q = Q none τ := by
  rw [bTe_readPerson_30 T35, To_skips_b h, tl_s, bTe_readPerson_39 T35, if_pos rfl, bTe_readPerson_56 T35, rP57_b h]
theorem rP19_b {E : mEn} {d : Nat} {Q : mPost} {τ : mSt} {u2 u3 u4 : Value} (h : ¬ τ.1 6 9 = 0) : WP E (d + 4) mTe_readPerson 19 [.ref 5, .ref 35, u2, u3, u4] [] τ Q = Q none τ := by
  rw [bTe_readPerson_19 T35, To_takeNewName_b T35 h, tl_s, rP30_b h]
theorem pNew_nz {T : Nat → Int32} {n np no nl q q' : Nat} {w : Nat → Int64} {x : Int64} (h : pNew T n w np no nl q = .ok (x, q')) : ¬ x = 0 := by
  unfold pNew at h
  split at h
  · next z =>
    split at h
    · exact absurd h (by simp)
    · have := Except.ok.inj h
      have e : nmL T n q = x := congrArg Prod.fst this
      rw [← e]
      exact (isN_1 z).2.1
  · exact absurd h (by simp)
theorem Te_readPerson {E : mEn} {d : Nat} {Q : mPost} {τ : mSt} {T : Nat → Int32} {n q : Nat} {c : Nat → Int32} {w : Nat → Int64} {u2 u3 u4 : Value} (h : COk τ T n q) (hw : isW T n q 0 = true) (hD : DR τ c w) (h1 : ∀ c' w' q', pPerson T n c w q = .ok (c', w', q') → ∀ υ, qt SRd τ υ → COk υ T n q' → DR υ c' w' → (∀ k, υ.1 44 k = τ.1 44 k) → Q none υ) (h2 : ∀ e, pPerson T n c w q = .error e → ∀ υ, qt SRd τ υ → CBad υ e → (∀ k, υ.1 44 k = τ.1 44 k) → Q none υ) : WP E (d + 4) mTe_readPerson 0 [.ref 5, .ref 35, u2, u3, u4] [] τ Q := by
  have hD' := hD
  obtain ⟨np, no, nl, nk, hT, h17, hk16, hZ⟩ := hD'
  obtain ⟨hN, e0, e1, e2, e3⟩ := TRel_N hT
  have n8 : np ≤ 8 := hN.1
  unfold pPerson at h1 h2
  rw [e0, e1, e2] at h1 h2
  have S44 : ∀ {φ : mSt}, qt S6b τ φ → ∀ k, φ.1 44 k = τ.1 44 k := fun q1 k => (q1 44 k rfl).1
  rw [bTe_readPerson_0 T35, hT.2.1.1]
  by_cases f8 : np = 8
  · rw [if_pos f8] at h2
    rw [if_pos (nI_le (by omega) (by omega)), bTe_readPerson_15 T35, bTe_readPerson_16 T35, show (0 : Int32) = nI 0 from rfl]
    refine Te_beginPart_f (k := 0) h (fun υ q1 g => ?_)
    rw [tl_n, rP19_b (CBad_n g)]
    exact h2 _ rfl υ (qt_mono q1 (fun o k => S6b_R)) g (S44 q1)
  rw [if_neg f8] at h1 h2
  rw [if_neg (nI_ge (by omega) (by omega)), bTe_readPerson_11 T35, bTe_readPerson_16 T35, show (0 : Int32) = nI 0 from rfl]
  refine Te_beginPart h (by omega) hw (fun φ q1 g1 => ?_)
  have hN1 : NOk φ 35 w np no nl := (TRel_N (TRel_q q1 (fun j k hj _ _ => S6b_D (by omega)) hT)).1
  rw [tl_n, bTe_readPerson_19 T35]
  refine To_takeNewName T35 g1 hN1 (fun x q' ex ψ q2 g2 => ?_) (fun e ee υ q2 g2 => ?_)
  rotate_left
  · rw [ee] at h2
    rw [tl_s, rP30_b (CBad_n g2)]
    exact h2 _ rfl υ (qt_mono (qt_tr q1 q2) (fun o k => S6b_R)) g2 (S44 (qt_tr q1 q2))
  rw [ex] at h1 h2
  dsimp only at h1 h2
  have hx := pNew_nz ex
  rw [tl_s, bTe_readPerson_30 T35, show (1 : Int32) = nI 1 from rfl]
  have q12 := qt_tr q1 q2
  have fin : ∀ (a q2' : Nat) (φ : mSt), pOpt T n 1 999 q' = .ok (a, q2') → qt S6b τ φ → COk φ T n q2' → WP E (d + 4) mTe_readPerson 57 [.ref 5, .ref 35, .long x, uu, u4] [.int (nI a)] φ Q := fun a q2' φ ea qf g => by
    rw [ea] at h1 h2
    dsimp only at h1 h2
    rw [bTe_readPerson_57 T35]
    refine Te_endsPart g (fun z υ q3 g3 => ?_) (fun z υ q3 g3 => ?_)
    · have h1' := h1 _ _ _ (if_pos z)
      have qu := qt_tr qf q3
      have hT3 : TRel υ 35 c w np no nl nk 0 := TRel_q qu (fun j k hj _ _ => S6b_D (by omega)) hT
      obtain ⟨z1, z2, z3⟩ := hZ
      rw [tl_s, bTe_readPerson_63 T35, if_neg i10, bTe_readPerson_66 T35]
      refine Tw_addPerson T35 hT3 (by omega) hx (z1 np (by omega) (by omega)).2.1 (z1 np (by omega) (by omega)).2.2 z3 (fun ω q4 g4 g5 g6 => ?_)
      rw [tl_n, bTe_readPerson_73 T35]
      refine h1' ω (qt_tr (qt_mono qu (fun o k => S6b_R)) (qt_mono q4 (fun o k => STc_R))) ?_ ⟨np + 1, no, nl, nk, g4, ?_, hk16, ⟨fun p a b => ?_, fun k a b => ?_, ?_⟩⟩ (fun k => (g5 k).trans (S44 qu k))
      · exact COk_q g3 q4 (fun k => rfl) (fun k => rfl) (fun k => rfl)
      · exact g6.trans ((qu 35 17 rfl).1.trans h17)
      · unfold cP
        rw [upd_n (by omega), upd_n (by omega), upd_n (by omega), upd_n (by omega), upd_n (by omega), upd_n (by omega)]
        exact z1 p (by omega) b
      · unfold cP
        rw [upd_n (by omega), upd_n (by omega)]
        exact z2 k a b
      · unfold cP
        rw [upd_n (by omega), upd_n (by omega)]
        exact z3
    · have h2' := h2 _ (if_neg z)
      have qu := qt_tr qf q3
      rw [tl_s, bTe_readPerson_63 T35, if_pos rfl, bTe_readPerson_73 T35]
      exact h2' υ (qt_mono qu (fun o k => S6b_R)) g3 (S44 qu)
  refine To_skips g2 (by omega) (fun z υ q3 g3 => ?_) (fun z => ?_)
  · rw [tl_s, bTe_readPerson_39 T35, if_neg i10, bTe_readPerson_42 T35, show (0 : Int32) = nI 0 from rfl]
    refine To_takeNumber g3 (by omega) (by omega) (fun v q'' ev ω q4 g4 => ?_) (fun e ee ω q4 g4 => ?_)
    · rw [tl_s, bTe_readPerson_53 T35]
      exact fin v q'' ω (by unfold pOpt; rw [if_pos z]; exact ev) (qt_tr q12 (qt_tr q3 q4)) g4
    · have ep : pOpt T n 1 999 q' = .error e := by unfold pOpt; rw [if_pos z]; exact ee
      rw [ep] at h2
      rw [tl_s, bTe_readPerson_53 T35, rP57_b (CBad_n g4)]
      have qu := qt_tr q12 (qt_tr q3 q4)
      exact h2 _ rfl ω (qt_mono qu (fun o k => S6b_R)) g4 (S44 qu)
  · rw [tl_s, bTe_readPerson_39 T35, if_pos rfl, bTe_readPerson_56 T35]
    exact fin 0 q' ψ (by unfold pOpt; rw [if_neg z]) q12 g2
