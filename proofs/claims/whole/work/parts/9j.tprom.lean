theorem bit_all : ∀ nl : Fin 9, ∀ x : Fin 256, x.val < 2 ^ nl.val → (∀ l : Fin 8, l.val < nl.val → ¬ ((nI x.val >>> (nI l.val &&& 31)) &&& 1 = 1)) → x.val = 0 := by decide +kernel
theorem bit_0 : ∀ l : Fin 8, ¬ ((0 : Int32) >>> (nI l.val &&& 31)) &&& 1 = 1 := by decide
/-- where no loaf is baked, no bit is set -/
theorem t17_0 {τ : mSt} {c : Nat → Int32} {w : Nat → Int64} {t np no nl nk dy : Nat} (h : TRel τ t c w np no nl nk dy) (hc : ∀ l, l < nl → c (74 + l) = -1) : τ.1 t 17 = 0 := by
  obtain ⟨⟨b1, b2, b3, b4, b5⟩, -, -, -, -, -, -, -, -, gL, ⟨x, hx, ex⟩, -⟩ := h
  have x256 : x < 256 := Nat.lt_of_lt_of_le hx (Nat.pow_le_pow_right (by omega) (show nl ≤ 8 from b3))
  have := bit_all ⟨nl, by omega⟩ ⟨x, x256⟩ hx (fun l hl g => by
    obtain ⟨-, -, -, -, -, g6⟩ := gL l.val hl
    rcases g6 with g6 | ⟨n, n1, n2, -⟩
    · apply g6.2; rw [ex]; exact g
    · rw [hc _ hl] at n2; exact nI_m1 (by omega) n2.symm)
  have x0 : x = 0 := this
  rw [ex, x0]; rfl
def pTP (T : Nat → Int32) (n : Nat) (c : Nat → Int32) (w : Nat → Int64) (q : Nat) : Except (Nat × Nat) ((Nat → Int32) × (Nat → Int64) × Nat) :=
  if cN c 3 < 16 then
    match pPart T n w (cN c 0) (cN c 2) q with
    | .error e => .error e
    | .ok ((s, l, p, r, f), q1) => match pSg T n q1 with
      | .error e => .error e
      | .ok q2 => .ok (mkF c (cN c 3) (nI s) (nI l) p r (nI f), w, q2)
  else .error (6, pl T n q)
theorem S9b_R {o k : Nat} (h : S9b o k = true) : SRd o k = true := by
  simp only [S9b, SRd, Bool.or_eq_true] at h ⊢
  rcases h with h | h
  · exact Or.inl (Or.inl h)
  · exact Or.inl (Or.inr h)
theorem S9b_D {o k : Nat} (h1 : 35 ≤ o) : S9b o k = false := by
  simp only [S9b, S6b_D h1, Bool.false_or, beq_eq_false_iff_ne]; omega
theorem STn_R {o k : Nat} (h : STn 35 o k = true) : SRd o k = true := STc_R (by
  simp only [STn, STc, Bool.and_eq_true, decide_eq_true_eq] at h ⊢; omega)
theorem Te_readTownPromise {E : mEn} {d : Nat} {Q : mPost} {τ : mSt} {T : Nat → Int32} {n q : Nat} {c : Nat → Int32} {w : Nat → Int64} (h : COk τ T n q) (hD : DR τ c w) (h1 : ∀ c' w' q', pTP T n c w q = .ok (c', w', q') → ∀ υ, qt SRd τ υ → COk υ T n q' → DR υ c' w' → GB τ υ 35 → Q none υ) (h2 : ∀ e, pTP T n c w q = .error e → ∀ υ, qt SRd τ υ → CBad υ e → GB τ υ 35 → Q none υ) : WP E (d + 5) mTe_readTownPromise 0 [.ref 5, .ref 35] [] τ Q := by
  obtain ⟨np, no, nl, nk, hT, h17, hk16, hZ⟩ := hD
  obtain ⟨hN, e0, e1, e2, e3⟩ := TRel_N hT
  have n8 : np ≤ 8 := hN.1
  unfold pTP at h1 h2
  rw [e0, e2, e3] at h1 h2
  have nO : ∀ {φ : mSt}, qt S9b τ φ → NOk φ 35 w np no nl := fun q1 => (TRel_N (TRel_q q1 (fun j k hj _ _ => S9b_D (by omega)) hT)).1
  have g44 : ∀ {φ : mSt}, qt S9b τ φ → GB τ φ 35 := fun q1 k => Or.inl (q1 44 k rfl).1
  have bad : ∀ {φ : mSt} {e : Nat × Nat}, qt S9b τ φ → CBad φ e → (∀ υ, qt SRd τ υ → CBad υ e → GB τ υ 35 → Q none υ) → Q none φ := fun q1 g k => k _ (qt_mono q1 (fun o k => S9b_R)) g (g44 q1)
  have t4 : τ.1 38 8 = nI nk := hT.2.2.2.2.1.1
  rw [bTe_readTownPromise_0 T35, show τ.1 (35 + 3) 8 = nI nk from t4]
  have tl29 : ∀ {φ : mSt} {e : Nat × Nat}, qt S9b τ φ → CBad φ e → (∀ υ, qt SRd τ υ → CBad υ e → GB τ υ 35 → Q none υ) → WP E (d + 5) mTe_readTownPromise 29 [.ref 5, .ref 35] [] φ Q := fun q1 g k => by
    rw [bTe_readTownPromise_29 T35, Te_endsPart_b (CBad_n g), tl_s, bTe_readTownPromise_33 T35, if_pos rfl, bTe_readTownPromise_71 T35]
    exact bad q1 g k
  by_cases f8 : nk < 16
  rotate_left
  · rw [if_neg f8] at h2
    rw [if_neg (nI_nlt (by omega) (by omega)), bTe_readTownPromise_12 T35]
    refine To_blame h (by omega) (by omega) (fun υ q1 g => ?_)
    rw [tl_n, bTe_readTownPromise_21 T35]
    refine rR0_b T35 (CBad_n g) (fun ω r => ?_)
    rw [tl_n]
    refine tl29 (qt_tr (qt_mono q1 (fun o k => S6_9)) (qt_mono r (fun o k => S9_b))) ⟨(r 6 9 rfl).1.trans g.1, (r 6 10 rfl).1.trans g.2.1, g.2.2.1, g.2.2.2⟩ (h2 _ rfl)
  rw [if_pos f8] at h1 h2
  rw [if_pos (nI_lt f8 (by omega)), bTe_readTownPromise_21 T35]
  refine Te_readPromise T35 n8 h nO (fun s l p r f q1 ep ll lp lr ne s1 s2 lf φ t1 g1 a0 a1 a2 a3 a4 => ?_) (fun e ee υ t1 g1 => ?_)
  rotate_left
  · rw [ee] at h2
    rw [tl_n]
    exact tl29 t1 g1 (h2 _ rfl)
  rw [ep] at h1 h2
  dsimp only at h1 h2
  rw [tl_n, bTe_readTownPromise_29 T35]
  refine Te_ends g1 (fun q2 eq ψ s3 g3 => ?_) (fun e ee υ s3 g3 => ?_)
  rotate_left
  · rw [ee] at h2
    rw [tl_s, bTe_readTownPromise_33 T35, if_pos rfl, bTe_readTownPromise_71 T35]
    exact bad (qt_tr t1 (qt_mono s3 (fun o k => S6_9))) g3 (h2 _ rfl)
  rw [eq] at h1
  dsimp only at h1
  have t3 := qt_tr t1 (qt_mono s3 (fun o k => S6_9))
  have hT3 : TRel ψ 35 c w np no nl nk 0 := TRel_q t3 (fun j k hj _ _ => S9b_D (by omega)) hT
  have i0 : ψ.1 9 0 = nI s := (s3 9 0 rfl).1.trans a0
  have i1 : ψ.1 9 1 = nI l := (s3 9 1 rfl).1.trans a1
  have i2 : ψ.1 9 2 = nI p := (s3 9 2 rfl).1.trans a2
  have i3 : ψ.1 9 3 = nI r := (s3 9 3 rfl).1.trans a3
  have i4 : ψ.1 9 4 = nI f := (s3 9 4 rfl).1.trans a4
  rw [tl_s, bTe_readTownPromise_33 T35, if_neg i10, bTe_readTownPromise_36 T35, if_neg (by decide), if_neg (by decide), if_neg (by decide), if_neg (by decide), if_neg (by decide), i0, i1, i2, i3, i4]
  refine Tw_handOn T35 hT3 (by omega) s1 s2 ll lp lr ne lf (fun ω q4 g4 g5 => ?_)
  rw [tl_s, bTe_readTownPromise_70 T35, bTe_readTownPromise_71 T35]
  have ec : ∀ j, j ≠ 3 → j ≠ 6 + p → j ≠ 6 + r → j < 82 ∨ 178 ≤ j → mkF c nk (nI s) (nI l) p r (nI f) j = c j := fun j x1 x2 x3 x4 => by
    unfold mkF mkD mkC mkB mkA
    rw [upd_n x2, upd_n x3, upd_n x1, upd_n (by omega), upd_n (by omega), upd_n (by omega), upd_n (by omega), upd_n (by omega), upd_n (by omega)]
  obtain ⟨z1, z2, z3⟩ := hZ
  have cm : ∀ l, l < nl → c (74 + l) = -1 := fun l hl => by
    have l8 : l < 8 := by have := hN.2.2.1; omega
    obtain ⟨-, -, -, -, -, g6⟩ := hT.2.2.2.2.2.2.2.2.2.1 l hl
    rcases g6 with g6 | ⟨_, _, _, _, g7⟩
    · exact g6.1
    · rw [h17] at g7; exact absurd g7 (bit_0 ⟨l, l8⟩)
  refine h1 _ _ _ rfl ω (qt_tr (qt_mono t3 (fun o k => S9b_R)) (qt_mono q4 (fun o k => STn_R))) (COk_q g3 q4 (fun k => rfl) (fun k => rfl) (fun k => rfl)) ⟨np, no, nl, nk + 1, g5, t17_0 g5 (fun l hl => ?_), by omega, fun x a b => ?_, fun k a b => ?_, ?_⟩ (fun k => ?_)
  · have := hN.2.2.1
    rw [ec _ (by omega) (by omega) (by omega) (by omega)]; exact cm l hl
  · rw [ec _ (by omega) (by omega) (by omega) (by omega), ec _ (by omega) (by omega) (by omega) (by omega), ec _ (by omega) (by omega) (by omega) (by omega)]; exact z1 x a b
  · rw [ec _ (by omega) (by omega) (by omega) (by omega)]; exact z2 k a b
  · rw [ec _ (by omega) (by omega) (by omega) (by omega)]; exact z3
  · rcases g4 k with g | g
    · exact Or.inl (g.trans (t3 44 k rfl).1)
    · exact Or.inr g
