/-! days, the reference: a step, the steps within it, the text -/
theorem kR_all : ∀ k ∈ stL, (0 : Int32) ≤ nI (kR k) ∧ (nI (kR k) = nI 6 ↔ k = 20) ∧ (nI (kR k) = nI 7 ↔ k = 25) := by decide
theorem rS4 {E : mEn} {d : Nat} {Q : mPost} {τ : mSt} {k : Nat} {a1 : Int32} {u2 u3 u4 : Value} (hk : k ∈ stL) : WP E d mMo_readStep 4 [.ref 166, .int a1, u2, u3, u4] [.int (nI (kR k))] τ Q = WP E d mMo_readStep 31 [.ref 166, .int a1, .int (nI (kR k)), .int (b2i (isBl k = true)), u4] [] τ Q := by
  obtain ⟨h0, h6, h7⟩ := kR_all k hk
  rw [bMo_readStep_4]
  by_cases y : k = 20
  · rw [if_pos (h6.mpr y), bMo_readStep_17, bMo_readStep_22, if_pos h0, b2i_t (show isBl k = true by rw [y]; rfl)]
  rw [if_neg (fun g => y (h6.mp g)), bMo_readStep_11]
  by_cases z : k = 25
  · rw [ite_nn (h7.mpr z), bMo_readStep_17, bMo_readStep_22, if_pos h0, b2i_t (show isBl k = true by rw [z]; rfl)]
  · rw [if_pos (fun g => z (h7.mp g)), bMo_readStep_21, bMo_readStep_22, if_pos h0, b2i_f (by simp [isBl, y, z])]
section MS
variable {E : mEn} {d : Nat} {Q : mPost} {τ : mSt} {e : Nat × Nat} {b : Nat} {a1 a2 a3 : Int32}
theorem mS192_b (hb : b + 8 < 600) (h : MBad τ e) (hQ : ∀ υ, qt SMx τ υ → MBad υ e → Q none υ) : WP E d mMo_readStep 192 [.ref 166, .int a1, .int a2, .int a3, .int (nI (2400 + b))] [] τ Q := by
  rw [bMo_readStep_192, nI_add, show 2400 + b + 8 = 2400 + (b + 8) by omega, mOut_f (by omega) (by omega), if_neg (by decide), nI_clamp (by omega)]
  exact hQ _ (qt_Xs qt_rf (by omega)) (MBad_s h)
theorem mS182_b (hb : b + 8 < 600) (h : MBad τ e) (hQ : ∀ υ, qt SMx τ υ → MBad υ e → Q none υ) : WP E (d + 9) mMo_readStep 182 [.ref 166, .int a1, .int a2, .int a3, .int (nI (2400 + b))] [] τ Q := by
  rw [bMo_readStep_182]
  refine Mo_sign_a (fun x _ => ?_)
  rw [tl_s, bMo_readStep_189, Mo_must_b h, tl_n]
  exact mS192_b hb h hQ
theorem mS170_b (hb : b + 8 < 600) (h : MBad τ e) (hQ : ∀ υ, qt SMx τ υ → MBad υ e → Q none υ) : WP E (d + 9) mMo_readStep 170 [.ref 166, .int a1, .int a2, .int a3, .int (nI (2400 + b))] [] τ Q := by
  rw [bMo_readStep_170]
  split
  · exact mS192_b hb h hQ
  · rw [bMo_readStep_174]
    refine Mo_isEnd_a (fun x _ => ?_)
    rw [tl_s, bMo_readStep_179, Mo_must_b h, tl_n]
    exact mS182_b hb h hQ
theorem mS142_b (hb : b + 8 < 600) (h : MBad τ e) (hQ : ∀ υ, qt SMx τ υ → MBad υ e → Q none υ) : WP E (d + 9) mMo_readStep 142 [.ref 166, .int a1, .int a2, .int a3, .int (nI (2400 + b))] [] τ Q := by
  rw [bMo_readStep_142]
  split
  · exact mS170_b hb h hQ
  · rw [bMo_readStep_146, if_pos (MBad_n h).1]
    exact mS170_b hb h hQ
theorem mS132_b (hb : b + 8 < 600) (h : MBad τ e) (hQ : ∀ υ, qt SMx τ υ → MBad υ e → Q none υ) : WP E (d + 9) mMo_readStep 132 [.ref 166, .int a1, .int a2, .int a3, .int (nI (2400 + b))] [] τ Q := by
  rw [bMo_readStep_132]
  refine Mo_sign_a (fun x _ => ?_)
  rw [tl_s, bMo_readStep_139, Mo_must_b h, tl_n]
  exact mS142_b hb h hQ
end MS
theorem Mo_mustS {E : mEn} {d : Nat} {Q : mPost} {τ : mSt} {T : Nat → Int32} {n q : Nat} (h : MOk τ T n q) (h1 : ∀ q', pSg T n q = .ok q' → ∀ υ, qt S66b τ υ → MOk υ T n q' → Q none υ) (h2 : ∀ e, pSg T n q = .error e → ∀ υ, qt S66b τ υ → MBad υ e → Q none υ) : WP E (d + 2) mMo_must 0 [.ref 166, .int (b2i (isS T n q 59 = true))] [] τ Q := by
  unfold pSg at h1 h2
  by_cases z : isS T n q 59 = true
  · rw [if_pos z] at h1
    rw [b2i_t z]
    exact Mo_must_t h (fun υ q1 g => h1 _ rfl υ q1 g)
  · rw [if_neg z] at h2
    rw [b2i_f z]
    exact Mo_must_f h (fun υ q1 g => h2 _ rfl υ q1 g)
def SMw (o k : Nat) : Bool := SMx o k || (o == 166 && k == 24)
theorem qt_wX {σ τ υ : mSt} (h : qt SMw σ τ) (g : qt SMx τ υ) : qt SMw σ υ := qt_tr h (qt_mono g (fun _ _ e => by simp only [SMw, e, Bool.true_or]))
theorem qt_w6 {σ τ υ : mSt} (h : qt SMw σ τ) (g : qt S66b τ υ) : qt SMw σ υ := qt_wX h (qt_X g)
theorem X24 {σ τ : mSt} (h : qt SMx σ τ) : τ.1 166 24 = σ.1 166 24 := (h 166 24 rfl).1
def mLoop (E : mEn) (d : Nat) (T : Nat → Int32) (n : Nat) (w : Nat → Int64) (np no nl : Nat) (σ : mSt) (f : Nat) : Prop :=
  ∀ (kk wi : Nat) (C F : Nat → Int32) (ns r q : Nat) (τ : mSt) (a2 a4 : Int32) (Q : mPost), wi + kk = 2 → 31 ≤ ns + f → ns ≤ 30 → MOk τ T n q → MC τ C → τ.1 166 24 = nI ns → qt SMw σ τ →
    (∀ C' F' ns' r' q' υ, pSq T n w np no nl f (wi + 1) C F ns r q = .ok (C', F', ns', r', q') → qt SMw σ υ → MOk υ T n q' → MC υ C' → υ.1 166 24 = nI ns' → ns ≤ ns' → ns' ≤ 30 → WP E (d + kk + 10) mMo_readStep 170 [.ref 166, .int (nI wi), .int a2, .int 1, .int a4] [] υ Q) →
    (∀ e υ, pSq T n w np no nl f (wi + 1) C F ns r q = .error e → qt SMw σ υ → MBad υ e → WP E (d + kk + 10) mMo_readStep 170 [.ref 166, .int (nI wi), .int a2, .int 1, .int a4] [] υ Q) →
    WP E (d + kk + 10) mMo_readStep 142 [.ref 166, .int (nI wi), .int a2, .int 1, .int a4] [] τ Q
theorem Mo_step {E : mEn} {d : Nat} {T : Nat → Int32} {n np no nl f : Nat} {w : Nat → Int64} {σ : mSt} (hL : mLoop E d T n w np no nl σ f) (nB : ∀ {φ : mSt}, qt SMw σ φ → BOk φ 0 w np no nl) {z wi : Nat} {C F : Nat → Int32} {ns r q : Nat} {τ : mSt} {Q : mPost} {u2 u3 u4 : Value} (hz : wi + z = 3) (hf : 30 ≤ ns + f) (hn : ns ≤ 30) (h : MOk τ T n q) (hM : MC τ C) (h24 : τ.1 166 24 = nI ns) (qs : qt SMw σ τ)
    (h1 : ∀ C' F' ns' r' q' υ, pOne T n w np no nl (pSq T n w np no nl f (wi + 1)) wi C F ns r q = .ok (C', F', ns', r', q') → qt SMw σ υ → MOk υ T n q' → MC υ C' → υ.1 166 24 = nI ns' → ns < ns' → ns' ≤ 30 → Q none υ)
    (h2 : ∀ e υ, pOne T n w np no nl (pSq T n w np no nl f (wi + 1)) wi C F ns r q = .error e → qt SMw σ υ → MBad υ e → Q none υ) : WP E (d + z + 9) mMo_readStep 0 [.ref 166, .int (nI wi), u2, u3, u4] [] τ Q := by
  have he : ∀ e, pHead T n w np no nl wi C ns q = .error e → ∀ υ, qt SMw σ υ → MBad υ e → Q none υ := fun e ee υ q1 g => h2 e υ (by simp only [pOne, ee]) q1 g
  rw [bMo_readStep_0, Mo_stepWord h, tl_s]
  by_cases K0 : stK T n q = 0
  · rw [(stK_0 K0).1, bMo_readStep_4, if_neg (by decide), bMo_readStep_11, if_pos (by decide), bMo_readStep_21, bMo_readStep_22, if_neg (by decide), bMo_readStep_27]
    refine Mo_wrong h (fun υ q1 g => ?_)
    rw [tl_n, bMo_readStep_31, if_pos (MBad_n g).1, bMo_readStep_57, if_pos (MBad_n g).1, bMo_readStep_83, if_neg (MBad_n g).2, bMo_readStep_90]
    exact he _ (by unfold pHead; rw [if_pos K0]) υ (qt_w6 qs q1) g
  obtain ⟨hw, hk, es⟩ := stK_w K0
  rw [es, rS4 hk, bMo_readStep_31, h.1, ite_nn rfl, bMo_readStep_38, h24]
  by_cases n30 : ns = 30
  · rw [ite_nn (by rw [n30]), bMo_readStep_47, h.2.1.2.1]
    refine Mo_fail h (by omega) (by omega) (fun υ q1 g => ?_)
    rw [tl_n, bMo_readStep_57, if_pos (MBad_n g).1, bMo_readStep_83, if_neg (MBad_n g).2, bMo_readStep_90]
    exact he _ (by unfold pHead; rw [if_neg K0, if_pos n30]) υ (qt_w6 qs q1) g
  rw [if_pos (fun g => n30 ((nI_eq (by omega) (by omega)).mp g)), bMo_readStep_57, h.1, ite_nn rfl, bMo_readStep_64]
  by_cases b3 : isBl (stK T n q) = true ∧ wi = 3
  · rw [b2i_t b3.1, if_neg i10, bMo_readStep_68, ite_nn (by rw [b3.2]), bMo_readStep_73, h.2.1.2.1]
    refine Mo_fail h (by omega) (by omega) (fun υ q1 g => ?_)
    rw [tl_n, bMo_readStep_83, if_neg (MBad_n g).2, bMo_readStep_90]
    exact he _ (by unfold pHead; rw [if_neg K0, if_neg n30, if_pos b3]) υ (qt_w6 qs q1) g
  have ph : pHead T n w np no nl wi C ns q = (match pRst T n w np no nl (stK T n q) (324 + 9 * ns) (upd C (324 + 9 * ns) (nI (kR (stK T n q)))) (bh T n q) with
    | .error e => .error e
    | .ok (g, C', q1) => match pSg T n q1 with
      | .error e => .error e
      | .ok q2 => .ok (stK T n q, g, C', q2)) := by unfold pHead; rw [if_neg K0, if_neg n30, if_neg b3]; rfl
  generalize stK T n q = k at *
  have R : WP E (d + z + 9) mMo_readStep 83 [.ref 166, .int (nI wi), .int (nI (kR k)), .int (b2i (isBl k = true)), u4] [] τ Q := by
    rw [bMo_readStep_83, h.1, if_pos (Int32.le_refl _), bMo_readStep_91, h24, nI_1, pk_mul, nI_add, show 2724 + 9 * ns = 2400 + (324 + 9 * ns) by omega]
    have g0 : MOk (sI τ 166 24 (nI (ns + 1))) T n q := MOk_q (S := fun o k => o == 166 && k == 24) h (qt_sI qt_rf rfl) (fun _ => rfl) (fun k x1 x2 => by simp only [Bool.and_eq_false_iff, beq_eq_false_iff_ne]; omega)
    have q0 : qt SMw σ (sI τ 166 24 (nI (ns + 1))) := qt_sI qs rfl
    have m0 : MC (sI τ 166 24 (nI (ns + 1))) C := fun j => (sI_n (Or.inl (by decide))).trans (hM j)
    have e24 : (sI τ 166 24 (nI (ns + 1))).1 166 24 = nI (ns + 1) := sI_e
    generalize sI τ 166 24 (nI (ns + 1)) = τ0 at *
    refine Mo_nx g0 (fun φ s1 g1 => ?_)
    rw [tl_n, bMo_readStep_118, mOut_f (by omega) (by omega), if_neg (by decide), nI_clamp (by omega)]
    have m2 := MC_s (j := 324 + 9 * ns) (v := nI (kR k)) (MC_q m0 s1)
    have g2 := MOk_s (j := 2400 + (324 + 9 * ns)) (v := nI (kR k)) g1
    have t2 : qt SMx τ0 (sI φ 171 (2400 + (324 + 9 * ns)) (nI (kR k))) := qt_Xs (qt_X s1) (by omega)
    generalize sI φ 171 (2400 + (324 + 9 * ns)) (nI (kR k)) = φ2 at *
    refine Mo_readRest hk (by omega) (by omega) upd_e g2 (nB (qt_wX q0 t2)) m2 (fun g C1 q1 e1 υ s3 g3 m3 => ?_) (fun e ee υ s3 g3 => ?_)
    rotate_left
    · rw [tl_n]
      exact mS132_b (by omega) g3 (fun ω r1 r2 => he e (by rw [ph, ee]) ω (qt_wX (qt_wX q0 (qt_tr t2 s3)) r1) r2)
    rw [tl_n, bMo_readStep_132, Mo_isSign g3, tl_s, bMo_readStep_139]
    refine Mo_mustS g3 (fun q2 e2 ψ s4 g4 => ?_) (fun e ee ψ s4 g4 => ?_)
    rotate_left
    · rw [tl_n]
      exact mS142_b (by omega) g4 (fun ω r1 r2 => he e (by rw [ph, e1]; simp only [ee]) ω (qt_wX (qt_wX q0 (qt_tr (qt_tr t2 s3) (qt_X s4))) r1) r2)
    have ph2 : pHead T n w np no nl wi C ns q = .ok (k, g, C1, q2) := by rw [ph, e1]; simp only [e2]
    have t4 : qt SMx τ0 ψ := qt_tr (qt_tr t2 s3) (qt_X s4)
    have i24 : ψ.1 166 24 = nI (ns + 1) := (X24 t4).trans e24
    have q4 := qt_wX q0 t4
    have m4 := MC_q m3 s4
    clear he ph e1 e2 s4 s3 m3 g3 t2 g2 m2 g1 s1 q0 m0 e24 g0 t4
    rw [tl_n]
    by_cases bl : isBl k = true
    rotate_left
    · have po : pOne T n w np no nl (pSq T n w np no nl f (wi + 1)) wi C F ns r q = .ok (upd C1 (324 + 9 * ns + 8) (nI (ns + 1)), fRow F r (nI k) g, ns + 1, r + 1, q2) := by
        simp only [pOne, ph2]; rw [if_neg bl]
      rw [bMo_readStep_142, b2i_f bl, if_pos rfl, bMo_readStep_170, if_pos rfl, bMo_readStep_192, nI_add, show 2400 + (324 + 9 * ns) + 8 = 2400 + (324 + 9 * ns + 8) by omega, mOut_f (by omega) (by omega), if_neg (by decide), nI_clamp (by omega), i24]
      exact h1 _ _ _ _ _ _ po (qt_wX q4 (qt_Xs qt_rf (by omega))) (MOk_s g4) (MC_s m4) ((sI_n (Or.inl (by decide))).trans i24) (by omega) (by omega)
    have po : pOne T n w np no nl (pSq T n w np no nl f (wi + 1)) wi C F ns r q = pEnd T n ns r (pSq T n w np no nl f (wi + 1) C1 (fRow F r (nI k) g) (ns + 1) (r + 1) q2) := by
      simp only [pOne, ph2]; rw [if_pos bl]
    rw [po] at h1 h2
    have w3 : wi ≠ 3 := fun g => b3 ⟨bl, g⟩
    obtain ⟨kk, rfl⟩ : ∃ kk, z = kk + 1 := ⟨z - 1, by omega⟩
    rw [b2i_t bl]
    refine hL kk wi C1 (fRow F r (nI k) g) (ns + 1) (r + 1) q2 ψ _ _ Q (by omega) (by omega) (by omega) g4 m4 i24 q4 (fun C2 F2 ns2 r2 q5 χ ep q6 g6 m6 j24 nn n30' => ?_) (fun e χ ep q6 g6 => ?_)
    · rw [ep] at h1 h2
      simp only [pEnd] at h1 h2
      rw [bMo_readStep_170, if_neg i10, bMo_readStep_174, Mo_isEnd g6, tl_s, bMo_readStep_179]
      refine Mo_mustW g6 (fun q7 e7 χ2 s7 g7 => ?_) (fun e ee χ2 s7 g7 => ?_)
      rotate_left
      · rw [tl_n]
        exact mS182_b (by omega) g7 (fun ω r1 r2 => h2 e ω (by simp only [ee]) (qt_wX (qt_w6 q6 s7) r1) r2)
      rw [tl_n, bMo_readStep_182, Mo_isSign g7, tl_s, bMo_readStep_189]
      refine Mo_mustS g7 (fun q8 e8 χ3 s8 g8 => ?_) (fun e ee χ3 s8 g8 => ?_)
      rotate_left
      · rw [tl_n]
        exact mS192_b (by omega) g8 (fun ω r1 r2 => h2 e ω (by simp only [e7, ee]) (qt_wX (qt_w6 (qt_w6 q6 s7) s8) r1) r2)
      have l24 : χ3.1 166 24 = nI ns2 := ((X24 (qt_X (qt_tr s7 s8)))).trans j24
      rw [tl_n, bMo_readStep_192, nI_add, show 2400 + (324 + 9 * ns) + 8 = 2400 + (324 + 9 * ns + 8) by omega, mOut_f (by omega) (by omega), if_neg (by decide), nI_clamp (by omega), l24]
      refine h1 _ _ ns2 (r2 + 1) q8 _ (by simp only [e7, e8]; rfl) (qt_wX (qt_w6 (qt_w6 q6 s7) s8) (qt_Xs qt_rf (by omega))) (MOk_s g8) (MC_s (MC_q m6 (qt_tr s7 s8))) ((sI_n (Or.inl (by decide))).trans l24) (by omega) n30'
    · exact mS170_b (by omega) g6 (fun ω r1 r2 => h2 e ω (by rw [ep]; rfl) (qt_wX q6 r1) r2)
  by_cases y : isBl k = true
  · rw [b2i_t y] at R ⊢
    rw [if_neg i10, bMo_readStep_68, if_pos (fun g => b3 ⟨y, (nI_eq (by omega) (by omega)).mp g⟩)]
    exact R
  · rw [b2i_f y] at R ⊢
    rw [if_pos rfl]
    exact R
theorem mLoop_all {E : mEn} {d : Nat} {T : Nat → Int32} {n np no nl : Nat} {w : Nat → Int64} {σ : mSt} (nB : ∀ {φ : mSt}, qt SMw σ φ → BOk φ 0 w np no nl) : ∀ f, mLoop E d T n w np no nl σ f := by
  intro f
  induction f with
  | zero =>
    intro kk wi C F ns r q τ a2 a4 Q hz hf hn h hM h24 qs h1 h2
    omega
  | succ f ih =>
    intro kk wi C F ns r q τ a2 a4 Q hz hf hn h hM h24 qs h1 h2
    unfold pSq at h1 h2
    rw [bMo_readStep_142, if_neg i10, bMo_readStep_146, h.1, ite_nn rfl, bMo_readStep_153, Mo_isEnd h, tl_s, bMo_readStep_157]
    have es : stpD T n (wi + 1) q = isW T n q 26 := by unfold stpD; rw [if_neg (by omega)]
    rw [es] at h1 h2
    by_cases zz : isW T n q 26 = true
    · rw [if_pos zz] at h1
      rw [b2i_t zz, if_pos i10]
      exact h1 C F ns r q τ rfl qs h hM h24 (Nat.le_refl _) hn
    rw [if_neg zz] at h1 h2
    rw [b2i_f zz, ite_nn rfl, bMo_readStep_160, nI_1]
    refine Mo_step ih nB (z := kk) (wi := wi + 1) (C := C) (F := F) (r := r) (by omega) (by omega) hn h hM h24 qs (fun C' F' ns' r' q' υ ep q1 g m i24 lt n30 => ?_) (fun e υ ep q1 g => ?_)
    · rw [tl_n, bMo_readStep_167]
      rw [ep] at h1 h2
      dsimp only at h1 h2
      exact ih kk wi C' F' ns' r' q' υ a2 a4 Q hz (by omega) n30 g m i24 q1 (fun C'' F'' ns'' r'' q'' υ' x1 x2 x3 x4 x5 x6 x7 => h1 C'' F'' ns'' r'' q'' υ' x1 x2 x3 x4 x5 (by omega) x7) h2
    · rw [tl_n, bMo_readStep_167, bMo_readStep_142, if_neg i10, bMo_readStep_146, if_pos (MBad_n g).1]
      exact h2 e υ (by rw [ep]) q1 g
theorem Mo_days_loop {E : mEn} {d : Nat} {Q : mPost} {T : Nat → Int32} {n np no nl : Nat} {w : Nat → Int64} {σ : mSt} {a1 : Int32} {u2 : Value} (nB : ∀ {φ : mSt}, qt SMw σ φ → BOk φ 0 w np no nl) : ∀ (f : Nat) (C F : Nat → Int32) (ns r q : Nat) (τ : mSt), 31 ≤ ns + f → ns ≤ 30 → MOk τ T n q → MC τ C → τ.1 166 24 = nI ns → qt SMw σ τ →
    (∀ C' F' ns' r' q' υ, pSq T n w np no nl f 0 C F ns r q = .ok (C', F', ns', r', q') → qt SMw σ υ → υ.1 166 12 = 0 → MC υ C' → υ.1 166 24 = nI ns' → ns' ≤ 30 → WP E (d + 13) mMo_days 50 [.ref 166, .int a1, u2] [] υ Q) →
    (∀ e υ, pSq T n w np no nl f 0 C F ns r q = .error e → qt SMw σ υ → MBad υ e → WP E (d + 13) mMo_days 50 [.ref 166, .int a1, u2] [] υ Q) → WP E (d + 13) mMo_days 28 [.ref 166, .int a1, u2] [] τ Q := by
  intro f
  induction f with
  | zero =>
    intro C F ns r q τ hf hn
    omega
  | succ f ih =>
    intro C F ns r q τ hf hn h hM h24 qs h1 h2
    have k4 := kd_le (T := T) (n := n) (q := q)
    unfold pSq at h1 h2
    rw [bMo_days_28, h.1, ite_nn rfl, bMo_days_35, h.2.1.1]
    have es : stpD T n 0 q = decide (kd T n q = 0) := by unfold stpD; rw [if_pos rfl]
    rw [es] at h1 h2
    by_cases zz : kd T n q = 0
    · rw [if_pos (decide_eq_true zz)] at h1
      rw [zz, if_pos nI_lit0]
      exact h1 C F ns r q τ rfl qs h.1 hM h24 hn
    rw [if_neg (fun g => zz (of_decide_eq_true g))] at h1 h2
    rw [if_neg (show ¬ nI (kd T n q) = 0 from fun g => zz ((nI_eq (b := 0) (by omega) (by omega)).mp g)), bMo_days_42]
    refine Mo_step (d := d) (mLoop_all nB f) nB (z := 3) (wi := 0) (C := C) (F := F) (r := r) (by omega) (by omega) hn h hM h24 qs (fun C' F' ns' r' q' υ ep q1 g m i24 lt n30 => ?_) (fun e υ ep q1 g => ?_)
    · rw [tl_n, bMo_days_47]
      rw [ep] at h1 h2
      dsimp only at h1 h2
      exact ih C' F' ns' r' q' υ (by omega) n30 g m i24 q1 h1 h2
    · rw [tl_n, bMo_days_47, bMo_days_28, if_pos (MBad_n g).1]
      exact h2 e υ (by rw [ep]) q1 g
