/-! days, class: the loop over a text's rows -/
def SDy (t o k : Nat) : Bool := S9b o k || SDt t o k
def DQ (τ : mSt) (t : Nat) (F : Nat → Int32) (ns r wi : Nat) (st : Nat → Nat) : Prop := τ.1 (t + 12) 2 = nI wi ∧ τ.1 (t + 12) 3 = nI r ∧ τ.1 (t + 12) 4 = nI ns ∧ τ.1 (t + 13) = F ∧ (∀ j, j < wi → τ.1 (t + 14) j = nI (st j) ∧ st j < r) ∧ ns ≤ 30 ∧ r + wi ≤ 2 * ns ∧ wi ≤ 3
theorem qt_y9 {t : Nat} {σ τ υ : mSt} (h : qt (SDy t) σ τ) (g : qt S9b τ υ) : qt (SDy t) σ υ := qt_tr h (qt_mono g (fun _ _ e => by simp only [SDy, e, Bool.true_or]))
theorem qt_y6 {t : Nat} {σ τ υ : mSt} (h : qt (SDy t) σ τ) (g : qt S6b τ υ) : qt (SDy t) σ υ := qt_y9 h (qt_mono g (fun _ _ => S6_9))
theorem qt_yD {t : Nat} {σ τ υ : mSt} (h : qt (SDy t) σ τ) (g : qt (SDt t) τ υ) : qt (SDy t) σ υ := qt_tr h (qt_mono g (fun _ _ e => by simp only [SDy, e, Bool.or_true]))
theorem S9b_t {t j k : Nat} (ht : isT t) : S9b (t + j) k = false := by
  have := isT_lt ht
  simp only [S9b, S6b, Bool.or_eq_false_iff, Bool.and_eq_false_iff, beq_eq_false_iff_ne, decide_eq_false_iff_not, ne_eq]; omega
theorem DQ_9 {σ τ : mSt} {t ns r wi : Nat} {F : Nat → Int32} {st : Nat → Nat} (ht : isT t) (h : DQ σ t F ns r wi st) (q : qt S9b σ τ) : DQ τ t F ns r wi st := by
  obtain ⟨d2, d3, d4, dF, d14, rest⟩ := h
  exact ⟨((q _ _ (S9b_t ht)).1).trans d2, ((q _ _ (S9b_t ht)).1).trans d3, ((q _ _ (S9b_t ht)).1).trans d4, (funext fun k => (q _ _ (S9b_t ht)).1).trans dF, fun j hj => ⟨((q _ _ (S9b_t ht)).1).trans (d14 j hj).1, (d14 j hj).2⟩, rest⟩
theorem F9_z {τ : mSt} (h : F9 τ (g5 0 0 0 0 0)) : F9 τ (fun _ => 0) := fun i hi => (h i hi).trans (by unfold g5; simp)
theorem F9_f {τ : mSt} : F9 (fillI τ 9 0 5 0) (g5 0 0 0 0 0) := fun i hi => by
  have e : (fillI τ 9 0 5 0).1 9 i = 0 := if_pos ⟨rfl, by omega, by omega⟩
  rw [e]; unfold g5; simp
theorem qt_f9 {τ : mSt} : qt S9 τ (fillI τ 9 0 5 0) := qt_fI qt_rf (fun _ => rfl)
section MY
variable {E : mEn} {d : Nat} {Q : mPost} {τ : mSt} {T : Nat → Int32} {n q t k ns wi : Nat}
theorem may_0 (ht : isT t) (h : COk τ T n q) (hK : stK T n q = 0) (hQ : ∀ υ, qt S6b τ υ → CBad υ (er T n q) → Q (some (.int 0)) υ) : WP E (d + 2) mTe_mayStepHere 0 [.ref 5, .int (wH T n q), .ref (t + 12)] [] τ Q := by
  rw [bTe_mayStepHere_0 ht, Te_isStep_f hK, tl_s, bTe_mayStepHere_4 ht, ite_nn rfl, bTe_mayStepHere_7 ht]
  refine To_misplaced h (fun υ q1 g => ?_)
  rw [tl_n, bTe_mayStepHere_14 ht, bTe_mayStepHere_62 ht, if_pos (CBad_n g), bTe_mayStepHere_76 ht, bTe_mayStepHere_77 ht (Or.inl rfl)]
  exact hQ υ q1 g
theorem may_30 (ht : isT t) (h : COk τ T n q) (hk : k ∈ stL) (h4 : τ.1 (t + 12) 4 = nI 30) (hQ : ∀ υ, qt S6b τ υ → CBad υ (6, pl T n q) → Q (some (.int 0)) υ) : WP E (d + 2) mTe_mayStepHere 0 [.ref 5, .int (nI k), .ref (t + 12)] [] τ Q := by
  rw [bTe_mayStepHere_0 ht, Te_isStep_t hk, tl_s, bTe_mayStepHere_4 ht, if_pos i10, bTe_mayStepHere_17 ht, h4, if_neg (by decide), bTe_mayStepHere_26 ht]
  refine To_blame h (by omega) (by omega) (fun υ q1 g => ?_)
  rw [tl_n, bTe_mayStepHere_35 ht, bTe_mayStepHere_62 ht, if_pos (CBad_n g), bTe_mayStepHere_76 ht, bTe_mayStepHere_77 ht (Or.inl rfl)]
  exact hQ υ q1 g
theorem may_7 (ht : isT t) (h : COk τ T n q) (hk : k ∈ stL) (hb : isBl k = true) (h4 : τ.1 (t + 12) 4 = nI ns) (hn : ns < 30) (h2 : τ.1 (t + 12) 2 = nI 3) (hQ : ∀ υ, qt S6b τ υ → CBad υ (7, pl T n q) → Q (some (.int 0)) υ) : WP E (d + 2) mTe_mayStepHere 0 [.ref 5, .int (nI k), .ref (t + 12)] [] τ Q := by
  rw [bTe_mayStepHere_0 ht, Te_isStep_t hk, tl_s, bTe_mayStepHere_4 ht, if_pos i10, bTe_mayStepHere_17 ht, h4, if_pos (nI_lt hn (by omega)), bTe_mayStepHere_38 ht, Te_begins (stL_28 hk).1, tl_s, bTe_mayStepHere_42 ht, b2i_t hb, if_neg i10, bTe_mayStepHere_45 ht, h2, if_neg (by decide), bTe_mayStepHere_53 ht]
  refine To_blame h (by omega) (by omega) (fun υ q1 g => ?_)
  rw [tl_n, bTe_mayStepHere_62 ht, if_pos (CBad_n g), bTe_mayStepHere_76 ht, bTe_mayStepHere_77 ht (Or.inl rfl)]
  exact hQ υ q1 g
theorem may_1 (ht : isT t) (h : COk τ T n q) (hk : k ∈ stL) (hb : ¬ (isBl k = true ∧ wi = 3)) (h4 : τ.1 (t + 12) 4 = nI ns) (hn : ns < 30) (h2 : τ.1 (t + 12) 2 = nI wi) (hw : wi ≤ 3) : WP E (d + 2) mTe_mayStepHere 0 [.ref 5, .int (nI k), .ref (t + 12)] [] τ Q = Q (some (.int 1)) τ := by
  have fin : WP E (d + 2) mTe_mayStepHere 62 [.ref 5, .int (nI k), .ref (t + 12)] [] τ Q = Q (some (.int 1)) τ := by
    rw [bTe_mayStepHere_62 ht, h.1, ite_nn rfl, bTe_mayStepHere_72 ht, bTe_mayStepHere_77 ht (Or.inr rfl)]
  rw [bTe_mayStepHere_0 ht, Te_isStep_t hk, tl_s, bTe_mayStepHere_4 ht, if_pos i10, bTe_mayStepHere_17 ht, h4, if_pos (nI_lt hn (by omega)), bTe_mayStepHere_38 ht, Te_begins (stL_28 hk).1, tl_s, bTe_mayStepHere_42 ht]
  by_cases y : isBl k = true
  · rw [b2i_t y, if_neg i10, bTe_mayStepHere_45 ht, h2, if_pos (nI_lt (by have : wi ≠ 3 := fun g => hb ⟨y, g⟩; omega) (by omega)), fin]
  · rw [b2i_f y, if_pos rfl, fin]
end MY
theorem days_116_b {E : mEn} {d : Nat} {Q : mPost} {τ : mSt} {s t : Nat} {a3 a4 : Int32} {u5 : Value} (hs : isT s) (ht : isT t) (g : ¬ τ.1 6 9 = 0) (hQ : Q (some (.int 0)) (sI τ (t + 12) 5 1)) : WP E d mTe_readDays 116 [.ref 5, .ref (s + 1), .ref (t + 12), .int a3, .int a4, u5] [] τ Q := by
  have tl := isT_lt ht
  rw [bTe_readDays_116 hs ht, sI_n (Or.inl (by omega)), if_pos g, bTe_readDays_135 hs ht, bTe_readDays_136 hs ht (Or.inl rfl)]
  exact hQ
theorem days_bad {E : mEn} {d : Nat} {Q : mPost} {τ : mSt} {s t : Nat} {a3 a4 : Int32} {u5 : Value} (hs : isT s) (ht : isT t) (g : ¬ τ.1 6 9 = 0) (hQ : Q (some (.int 0)) (sI τ (t + 12) 5 1)) : WP E (d + 2) mTe_readDays 15 [.ref 5, .ref (s + 1), .ref (t + 12), .int a3, .int a4, u5] [] τ Q := by
  have f102 : WP E (d + 2) mTe_readDays 102 [.ref 5, .ref (s + 1), .ref (t + 12), .int a3, .int a4, u5] [] τ Q := by
    rw [bTe_readDays_102 hs ht]
    split
    · exact days_116_b hs ht g hQ
    · rw [bTe_readDays_109 hs ht, To_misplaced_b g, tl_n]
      exact days_116_b hs ht g hQ
  rw [bTe_readDays_15 hs ht]
  split
  · exact f102
  · rw [bTe_readDays_23 hs ht, To_goesOn_b g, tl_s, bTe_readDays_30 hs ht, if_pos rfl]
    exact f102
theorem stK_n {T : Nat → Int32} {n q : Nat} (h : kd T n q ≠ 1) : stK T n q = 0 := by
  by_cases z : stK T n q = 0
  · exact z
  · have hw := (stK_w z).1
    simp only [isW, Bool.and_eq_true, decide_eq_true_eq] at hw
    exact absurd hw.1 h
theorem stK_26 {T : Nat → Int32} {n q : Nat} (h : wH T n q = nI 26) : stK T n q = 0 := by
  by_cases z : stK T n q = 0
  · exact z
  · obtain ⟨hw, hk, -⟩ := stK_w z
    have k28 := (stL_28 hk).1
    have := (nI_eq (by omega) (by omega)).mp ((wH_k k28 hw).symm.trans h)
    rw [this] at hk
    exact absurd hk (by decide)
theorem isW_kd {T : Nat → Int32} {n q k : Nat} (h : isW T n q k = true) : kd T n q = 1 := by
  simp only [isW, Bool.and_eq_true, decide_eq_true_eq] at h; exact h.1
theorem Te_days_sq {E : mEn} {d : Nat} {Q : mPost} {σ : mSt} {T : Nat → Int32} {n s t np no nl : Nat} {w : Nat → Int64} {a3 : Int32} (hs : isT s) (ht : isT t) (n8 : np ≤ 8) (nO : ∀ {φ : mSt}, qt (SDy t) σ φ → NOk φ s w np no nl) : ∀ (f wi : Nat) (C F : Nat → Int32) (ns r q : Nat) (st : Nat → Nat) (τ : mSt) (u5 : Value), 31 ≤ ns + f → COk τ T n q → DQ τ t F ns r wi st → qt (SDy t) σ τ →
    (∀ C' F' ns' r' q' υ u, pSq T n w np no nl f wi C F ns r q = .ok (C', F', ns', r', q') → stpD T n wi q' = true → qt (SDy t) σ υ → COk υ T n q' → DQ υ t F' ns' r' wi st → ns ≤ ns' → r ≤ r' → WP E (d + 8) mTe_readDays 15 [.ref 5, .ref (s + 1), .ref (t + 12), .int a3, .int (nI r'), u] [] υ Q) →
    (∀ e υ, pSq T n w np no nl f wi C F ns r q = .error e → qt (SDy t) σ υ → CBad υ e → Q (some (.int 0)) (sI υ (t + 12) 5 1)) → WP E (d + 8) mTe_readDays 15 [.ref 5, .ref (s + 1), .ref (t + 12), .int a3, .int (nI r), u5] [] τ Q := by
  intro f
  have tl := isT_lt ht
  induction f with
  | zero =>
    intro wi C F ns r q st τ u5 hf h hD qs h1 h2
    have := hD.2.2.2.2.2.1
    omega
  | succ f ih =>
    intro wi C F ns r q st τ u5 hf h hD qs h1 h2
    have hD' := hD
    obtain ⟨d2, d3, d4, dF, d14, dn, dr, dw⟩ := hD'
    unfold pSq at h1 h2
    by_cases z : stpD T n wi q = true
    · rw [if_pos z] at h1
      exact h1 C F ns r q τ u5 rfl z qs h hD (Nat.le_refl _) (Nat.le_refl _)
    rw [if_neg z] at h1 h2
    have he : ∀ e, pHead T n w np no nl wi C ns q = .error e → ∀ υ, qt (SDy t) σ υ → CBad υ e → Q (some (.int 0)) (sI υ (t + 12) 5 1) := fun e ee υ q1 g => h2 e υ (by simp only [pOne, ee]) q1 g
    have h0 : stK T n q = 0 → pHead T n w np no nl wi C ns q = .error (er T n q) := fun g => by unfold pHead; rw [if_pos g]
    rw [bTe_readDays_15 hs ht, if_neg (nI_ge (by omega) (by omega)), bTe_readDays_23 hs ht, To_goesOn h, tl_s, bTe_readDays_30 hs ht]
    by_cases k0 : kd T n q = 0
    · have w0 : wi ≠ 0 := fun g => z (by unfold stpD; rw [if_pos g, k0]; rfl)
      rw [b2i_f (fun g => g k0), if_pos rfl, bTe_readDays_102 hs ht, d2, if_neg (show ¬ nI wi ≤ 0 from nI_ge (a := 0) (by omega) (by omega)), bTe_readDays_109 hs ht]
      refine To_misplaced h (fun υ q1 g => ?_)
      rw [tl_n]
      exact days_116_b hs ht (CBad_n g) (he _ (h0 (stK_n (by omega))) υ (qt_y6 qs q1) g)
    rw [b2i_t k0, if_neg i10, bTe_readDays_33 hs ht, To_wordHere h, tl_s, bTe_readDays_40 hs ht, Ar_fill sh_9 (by omega) (by omega), tl_n, bTe_readDays_50 hs ht]
    have qf : qt S9b τ (fillI τ 9 0 5 0) := qt_mono qt_f9 (fun _ _ => S9_b)
    have hφ : COk (fillI τ 9 0 5 0) T n q := COk_q (S := S9) h qt_f9 (fun _ => rfl) (fun _ => rfl) (fun _ => rfl)
    have Dφ := DQ_9 ht hD qf
    have fφ : F9 (fillI τ 9 0 5 0) (g5 0 0 0 0 0) := F9_f
    have qφ := qt_y9 qs qf
    generalize fillI τ 9 0 5 0 = φ at *
    obtain ⟨x2, x3, x4, xF, x14, -⟩ := id Dφ
    by_cases k26 : wH T n q = nI 26
    · have w0 : wi = 0 := by
        by_cases g : wi = 0
        · exact g
        · exact absurd (by unfold stpD; rw [if_neg g]; exact wH_i (by omega) k26) z
      subst w0
      rw [ite_nn k26, bTe_readDays_57 hs ht, bTe_readEnd_0 ht, x2, ite_nn nI_lit0, bTe_readEnd_7 ht]
      refine To_misplaced hφ (fun υ q1 g => ?_)
      rw [tl_n, bTe_readEnd_14 ht, To_takeWord_b (CBad_n g), tl_n, bTe_readEnd_23 ht, Te_endsPart_b (CBad_n g), tl_s, bTe_readEnd_27 ht, if_pos rfl, bTe_readEnd_38 ht, tl_n, bTe_readDays_62 hs ht, bTe_readDays_96 hs ht]
      exact days_bad hs ht (CBad_n g) (he _ (h0 (stK_26 k26)) υ (qt_y6 qφ q1) g)
    rw [if_pos k26, bTe_readDays_65 hs ht]
    by_cases K0 : stK T n q = 0
    · refine may_0 ht hφ K0 (fun υ q1 g => ?_)
      rw [tl_s, bTe_readDays_72 hs ht, if_pos rfl, bTe_readDays_96 hs ht]
      exact days_bad hs ht (CBad_n g) (he _ (h0 K0) υ (qt_y6 qφ q1) g)
    obtain ⟨hw, hk, -⟩ := stK_w K0
    have k28 := (stL_28 hk).1
    rw [wH_k k28 hw]
    have kn : stK T n q ≠ 26 := fun g => by rw [g] at hk; exact absurd hk (by decide)
    by_cases n30 : ns = 30
    · subst n30
      refine may_30 ht hφ hk x4 (fun υ q1 g => ?_)
      rw [tl_s, bTe_readDays_72 hs ht, if_pos rfl, bTe_readDays_96 hs ht]
      exact days_bad hs ht (CBad_n g) (he _ (by unfold pHead; rw [if_neg K0, if_pos rfl]) υ (qt_y6 qφ q1) g)
    by_cases b3 : isBl (stK T n q) = true ∧ wi = 3
    · obtain ⟨b3a, rfl⟩ := b3
      refine may_7 ht hφ hk b3a x4 (by omega) x2 (fun υ q1 g => ?_)
      rw [tl_s, bTe_readDays_72 hs ht, if_pos rfl, bTe_readDays_96 hs ht]
      exact days_bad hs ht (CBad_n g) (he _ (by unfold pHead; rw [if_neg K0, if_neg n30, if_pos ⟨b3a, rfl⟩]) υ (qt_y6 qφ q1) g)
    rw [may_1 ht hφ hk b3 x4 (by omega) x2 dw, tl_s, bTe_readDays_72 hs ht, if_neg i10, bTe_readDays_75 hs ht]
    have ph : pHead T n w np no nl wi C ns q = (match pRst T n w np no nl (stK T n q) (324 + 9 * ns) (upd C (324 + 9 * ns) (nI (kR (stK T n q)))) (bh T n q) with
      | .error e => .error e
      | .ok (g, C', q1) => match pSg T n q1 with
        | .error e => .error e
        | .ok q2 => .ok (stK T n q, g, C', q2)) := by unfold pHead; rw [if_neg K0, if_neg n30, if_neg b3]; rfl
    generalize stK T n q = k at *
    refine Te_readStep (b := 324 + 9 * ns) (C := upd C (324 + 9 * ns) (nI (kR k))) hs n8 hk hw hφ (fun q1 => nO (qt_y9 qφ q1)) fφ (fun g C1 q1 e1 υ t1 g1 f1 => ?_) (fun e ee υ t1 g1 => ?_)
    rotate_left
    · rw [tl_n, bTe_readDays_82 hs ht, Te_endsPart_b (CBad_n g1), tl_s, bTe_readDays_86 hs ht, if_pos rfl, bTe_readDays_96 hs ht]
      exact days_bad hs ht (CBad_n g1) (he e (by rw [ph, ee]) υ (qt_y9 qφ t1) g1)
    rw [tl_n, bTe_readDays_82 hs ht]
    refine Te_ends g1 (fun q2 e2 ψ s2 g2 => ?_) (fun e ee ψ s2 g2 => ?_)
    rotate_left
    · rw [tl_s, bTe_readDays_86 hs ht, if_pos rfl, bTe_readDays_96 hs ht]
      exact days_bad hs ht (CBad_n g2) (he e (by rw [ph, e1]; simp only [ee]) ψ (qt_y6 (qt_y9 qφ t1) s2) g2)
    have ph2 : pHead T n w np no nl wi C ns q = .ok (k, g, C1, q2) := by rw [ph, e1]; simp only [e2]
    rw [tl_s, bTe_readDays_86 hs ht, if_neg i10, bTe_readDays_89 hs ht]
    have qψ := qt_y6 (qt_y9 qφ t1) s2
    have Dψ := DQ_9 ht (DQ_9 ht Dφ t1) (qt_mono s2 (fun _ _ => S6_9))
    have fψ := F9_q f1 s2
    clear he h0 ph e1 e2 t1 s2 f1 g1 Dφ qφ fφ hφ x2 x3 x4 xF x14
    obtain ⟨x2, x3, x4, xF, x14, -⟩ := id Dψ
    have Sf : ∀ {ψ ω : mSt} {q' : Nat}, COk ψ T n q' → qt (SDt t) ψ ω → COk ω T n q' := fun g q => COk_q g q (fun k => by simp only [SDt, Bool.or_eq_false_iff, beq_eq_false_iff_ne]; omega) (fun k => by simp only [SDt, Bool.or_eq_false_iff, beq_eq_false_iff_ne]; omega) (fun k => by simp only [SDt, Bool.or_eq_false_iff, beq_eq_false_iff_ne]; omega)
    by_cases bl : isBl k = true
    rotate_left
    · have po : pOne T n w np no nl (pSq T n w np no nl f (wi + 1)) wi C F ns r q = .ok (upd C1 (324 + 9 * ns + 8) (nI (ns + 1)), fRow F r (nI k) g, ns + 1, r + 1, q2) := by
        simp only [pOne, ph2]; rw [if_neg bl]
      rw [po] at h1 h2
      dsimp only at h1 h2
      refine Te_addStep_f ht k28 kn bl x3 x4 (by omega) xF fψ (fun ω q3 a1 a2 a3 a4 a5 => ?_)
      rw [tl_n, bTe_readDays_96 hs ht, nI_1]
      exact ih wi _ _ (ns + 1) (r + 1) q2 st ω _ (by omega) (Sf g2 q3) ⟨a2.trans x2, a3, a4, a1, fun j hj => ⟨(a5 j).trans (x14 j hj).1, by have := (x14 j hj).2; omega⟩, by omega, by omega, dw⟩ (qt_yD qψ q3) (fun C' F' ns' r' q' υ u i1 i2 i3 i4 i5 i6 i7 => h1 C' F' ns' r' q' υ u i1 i2 i3 i4 i5 (by omega) (by omega)) h2
    have w3 : wi < 3 := by
      have : wi ≠ 3 := fun g => b3 ⟨bl, g⟩
      omega
    have po : pOne T n w np no nl (pSq T n w np no nl f (wi + 1)) wi C F ns r q = pEnd T n ns r (pSq T n w np no nl f (wi + 1) C1 (fRow F r (nI k) g) (ns + 1) (r + 1) q2) := by
      simp only [pOne, ph2]; rw [if_pos bl]
    rw [po] at h1 h2
    refine Te_addStep_t ht k28 kn bl x2 w3 x3 x4 (by omega) xF fψ (fun ω q3 a1 a2 a3 a4 a5 a6 => ?_)
    rw [tl_n, bTe_readDays_96 hs ht, nI_1]
    refine ih (wi + 1) C1 (fRow F r (nI k) g) (ns + 1) (r + 1) q2 (fun j => if j = wi then r else st j) ω _ (by omega) (Sf g2 q3) ⟨a2, a3, a4, a1, fun j hj => ?_, by omega, by omega, by omega⟩ (qt_yD qψ q3) (fun C2 F2 ns2 r2 q4 χ u ep hst q5 g5' D5 nn rr => ?_) (fun e χ ep q5 g5' => ?_)
    · dsimp only
      by_cases e : j = wi
      · subst e; rw [if_pos rfl]; exact ⟨a5, by omega⟩
      · rw [if_neg e]
        have := x14 j (by omega)
        exact ⟨(a6 j e).trans this.1, by omega⟩
    rotate_left
    · exact h2 e χ (by rw [ep]; rfl) q5 g5'
    have w26 : isW T n q4 26 = true := by
      unfold stpD at hst
      rw [if_neg (by omega)] at hst
      exact hst
    have k1 := isW_kd w26
    rw [ep] at h1 h2
    have er26 : pWd T n 26 q4 = .ok (bh T n q4) := by unfold pWd; rw [if_pos w26]
    simp only [pEnd, er26] at h1 h2
    obtain ⟨y2, y3, y4, yF, y14, yn, yr, yw⟩ := id D5
    rw [bTe_readDays_15 hs ht, if_neg (nI_ge (by omega) (by omega)), bTe_readDays_23 hs ht, To_goesOn g5', tl_s, bTe_readDays_30 hs ht, b2i_t (by omega), if_neg i10, bTe_readDays_33 hs ht, To_wordHere g5', tl_s, bTe_readDays_40 hs ht, Ar_fill sh_9 (by omega) (by omega), tl_n, bTe_readDays_50 hs ht, wH_k (by omega) w26, ite_nn rfl, bTe_readDays_57 hs ht]
    have qf : qt S9b χ (fillI χ 9 0 5 0) := qt_mono qt_f9 (fun _ _ => S9_b)
    have hφ : COk (fillI χ 9 0 5 0) T n q4 := COk_q (S := S9) g5' qt_f9 (fun _ => rfl) (fun _ => rfl) (fun _ => rfl)
    have Dφ := DQ_9 ht D5 qf
    have fφ : F9 (fillI χ 9 0 5 0) (g5 0 0 0 0 0) := F9_f
    have qφ := qt_y9 q5 qf
    generalize fillI χ 9 0 5 0 = φ1 at *
    rw [bTe_readEnd_0 ht, Dφ.1, if_pos (nI_ne0 (by omega) (by omega)), bTe_readEnd_14 ht]
    refine To_takeWord hφ (by omega) (fun _ φ2 s2 g6 => ?_) (fun y => absurd w26 y)
    rw [tl_n, bTe_readEnd_23 ht]
    refine Te_ends g6 (fun q7 e7 φ3 s3 g7 => ?_) (fun e ee φ3 s3 g7 => ?_)
    rotate_left
    · rw [tl_s, bTe_readEnd_27 ht, if_pos rfl, bTe_readEnd_38 ht, tl_n, bTe_readDays_62 hs ht, bTe_readDays_96 hs ht]
      exact days_bad hs ht (CBad_n g7) (h2 e φ3 (by simp only [ee]) (qt_y6 (qt_y6 qφ s2) s3) g7)
    simp only [e7] at h1 h2
    have Dφ3 := DQ_9 ht Dφ (qt_mono (qt_tr s2 s3) (fun _ _ => S6_9))
    obtain ⟨z2, z3, z4, zF, z14, -⟩ := id Dφ3
    have zw := z14 wi (by omega)
    dsimp only at zw
    rw [if_pos rfl] at zw
    rw [tl_s, bTe_readEnd_27 ht, if_neg i10, bTe_readEnd_30 ht]
    refine Da_close ht z2 w3 z3 (by omega) zw.1 zw.2 zF (F9_z (F9_q fφ (qt_tr s2 s3))) (fun υ q8 b1 b2 b3' b4 => ?_)
    rw [tl_n, bTe_readEnd_38 ht, tl_n, bTe_readDays_62 hs ht, bTe_readDays_96 hs ht, nI_1]
    have q8' : qt (SDt t) φ3 υ := qt_mono q8 (fun o k h => by simp only [SDt, Bool.or_eq_true] at h ⊢; exact Or.inl h)
    refine ih wi _ _ ns2 (r2 + 1) q7 st υ _ (by omega) (Sf g7 q8') ⟨b2, b3', b4.trans z4, b1, fun j hj => ?_, yn, by omega, dw⟩ (qt_yD (qt_y6 (qt_y6 qφ s2) s3) q8') (fun C' F' ns' r' q' υ u i1 i2 i3 i4 i5 i6 i7 => h1 C' F' ns' r' q' υ u i1 i2 i3 i4 i5 (by omega) (by omega)) h2
    have v1 := z14 j (by omega)
    dsimp only at v1
    rw [if_neg (by omega)] at v1
    exact ⟨((q8 (t + 14) j (by simp)).1).trans v1.1, by omega⟩
