def pTold (T : Nat → Int32) (n : Nat) (w : Nat → Int64) (lo m q : Nat) : Except (Nat × Nat) Nat := if isN T n q then (if fnd w lo (nmL T n q) m 0 = -1 then .error (3, pl T n q) else .ok (fnd w lo (nmL T n q) m 0).toNatClampNeg) else .error (er T n q)
theorem nI_max {k : Nat} (h : k < 2 ^ 31) : (if (0 : Int32) < nI k then nI k else 0) = nI k := by
  by_cases z : 0 < k
  · rw [if_pos (nI_g0 z h)]
  · rw [show k = 0 by omega]; rfl
theorem nMy_le {np no nl a : Nat} (h1 : np ≤ 8) (h2 : no ≤ 4) (h3 : nl ≤ 8) (ha : a < 3) : nMy np no nl a ≤ 8 := by
  rcases (show a = 0 ∨ a = 1 ∨ a = 2 by omega) with rfl | rfl | rfl
  · exact h1
  · exact Nat.le_trans h2 (by omega)
  · exact h3
theorem Mo_told {E : mEn} {d : Nat} {Q : mPost} {τ : mSt} {T : Nat → Int32} {n q b a np no nl : Nat} {w : Nat → Int64} {u : Value} (ha : a < 3) (h : MOk τ T n q) (hB : BOk τ b w np no nl) (h1 : ∀ v, pTold T n w (nLo a) (nMy np no nl a) q = .ok v → v < nMy np no nl a → Q (some (.int (nI v))) τ) (h2 : ∀ e, pTold T n w (nLo a) (nMy np no nl a) q = .error e → ∀ υ, qt S66b τ υ → MBad υ e → Q (some (.int 0)) υ) : WP E (d + 5) mMo_told 0 [.ref 166, .int (nI b), .int (nI a), u] [] τ Q := by
  rw [bMo_told_0, h.1, ite_nn rfl, bMo_told_7, Mo_isName h, tl_s, bMo_told_11]
  unfold pTold at h1 h2
  have m8 := nMy_le hB.2.1 hB.2.2.1 hB.2.2.2.1 ha
  by_cases z : isN T n q = true
  · rw [if_pos z] at h1 h2
    have e19 := isN_w h z
    rw [b2i_t z, if_pos i10, bMo_told_18, h.1, if_pos (Int32.le_refl _)]
    have P : WP E (d + 5) mMo_told 27 [.ref 166, .int (nI b), .int (nI a), u] [] τ Q = WP E (d + 5) mMo_told 57 [.ref 166, .int (nI b), .int (nI a), u] [.int (fnd w (nLo a) (nmL T n q) (nMy np no nl a) 0)] τ Q := by
      rw [bMo_told_27]
      rcases (show a = 0 ∨ a = 1 ∨ a = 2 by omega) with rfl | rfl | rfl
      · rw [ite_nn (show nI 0 = 0 from rfl), bMo_told_31, Mo_personNamed hB, tl_s, bMo_told_36, e19]; rfl
      · rw [if_pos (by decide), bMo_told_39, ite_nn (show nI 1 = 1 from rfl), bMo_told_44, Mo_ovenNamed hB, tl_s, bMo_told_49, e19]; rfl
      · rw [if_pos (by decide), bMo_told_39, if_pos (by decide), bMo_told_52, Mo_loafNamed hB, tl_s, e19]; rfl
    rw [P, bMo_told_57]
    have fs := fnd_s (w := w) (lo := nLo a) (x := nmL T n q) (nMy np no nl a) 0
    generalize fnd w (nLo a) (nmL T n q) (nMy np no nl a) 0 = F at *
    rcases fs with y | ⟨k, -, kn, ek, -⟩
    · rw [if_pos y] at h2
      rw [y, if_neg (by decide), bMo_told_62, h.2.1.2.1]
      refine Mo_fail h (by omega) (by omega) (fun υ q1 g => ?_)
      rw [tl_n, bMo_told_71, if_neg (by decide)]
      exact h2 _ rfl υ q1 g
    · rw [ek, if_neg (nI_m1 (by omega)), nI_clamp (by omega)] at h1
      rw [ek, if_pos (by rw [show (0 : Int32) = nI 0 from rfl]; exact nI_le (by omega) (by omega)), bMo_told_71, nI_max (by omega)]
      exact h1 _ rfl (by omega)
  · rw [if_neg z] at h2
    rw [b2i_f z, ite_nn rfl, bMo_told_14]
    refine Mo_wrong h (fun υ q1 g => ?_)
    rw [tl_n, bMo_told_18, if_neg (MBad_n g).2, bMo_told_25]
    exact h2 _ rfl υ q1 g
theorem Mo_told_b {E : mEn} {d : Nat} {Q : mPost} {τ : mSt} {e : Nat × Nat} {a b : Int32} {u : Value} (h : MBad τ e) : WP E d mMo_told 0 [.ref 166, .int b, .int a, u] [] τ Q = Q (some (.int 0)) τ := by
  rw [bMo_told_0, if_pos (MBad_n h).1, bMo_told_18, if_neg (MBad_n h).2, bMo_told_25]
theorem Mo_readTold {E : mEn} {d : Nat} {Q : mPost} {τ : mSt} {T : Nat → Int32} {n q b a np no nl : Nat} {w : Nat → Int64} {u : Value} (ha : a < 3) (h : MOk τ T n q) (hB : BOk τ b w np no nl) (h1 : ∀ v q', pName T n w (nLo a) (nMy np no nl a) (-1) q = .ok (v, q') → v < nMy np no nl a → ∀ υ, qt S66b τ υ → MOk υ T n q' → Q (some (.int (nI v))) υ) (h2 : ∀ e, pName T n w (nLo a) (nMy np no nl a) (-1) q = .error e → ∀ υ, qt S66b τ υ → MBad υ e → Q (some (.int 0)) υ) : WP E (d + 6) mMo_readTold 0 [.ref 166, .int (nI b), .int (nI a), u] [] τ Q := by
  rw [bMo_readTold_0]
  unfold pName at h1 h2
  refine Mo_told ha h hB (fun v e lv => ?_) (fun er e υ q1 g => ?_)
  · unfold pTold at e
    by_cases z : isN T n q = true
    · rw [if_pos z] at e h1
      by_cases y : fnd w (nLo a) (nmL T n q) (nMy np no nl a) 0 = -1
      · rw [if_pos y] at e; exact absurd e (by simp)
      · rw [if_neg y] at e h1
        rw [if_neg y] at h1
        have e' := Except.ok.inj e
        rw [e'] at h1
        rw [tl_s, bMo_readTold_6]
        refine Mo_must_t h (fun υ q1 g => ?_)
        rw [tl_n, bMo_readTold_12]
        exact h1 _ _ rfl lv υ q1 g
    · rw [if_neg z] at e; exact absurd e (by simp)
  · rw [tl_s, bMo_readTold_6, Mo_must_b g, tl_n, bMo_readTold_12]
    refine h2 er ?_ υ q1 g
    unfold pTold at e
    by_cases z : isN T n q = true
    · rw [if_pos z] at e ⊢
      by_cases y : fnd w (nLo a) (nmL T n q) (nMy np no nl a) 0 = -1
      · rw [if_pos y] at e ⊢; exact congrArg _ (Except.error.inj e)
      · rw [if_neg y] at e; exact absurd e (by simp)
    · rw [if_neg z] at e ⊢; exact congrArg _ (Except.error.inj e)
theorem Mo_readTold_b {E : mEn} {d : Nat} {Q : mPost} {τ : mSt} {e : Nat × Nat} {a b : Int32} {u : Value} (h : MBad τ e) : WP E (d + 1) mMo_readTold 0 [.ref 166, .int b, .int a, u] [] τ Q = Q (some (.int 0)) τ := by
  rw [bMo_readTold_0, Mo_told_b h, tl_s, bMo_readTold_6, Mo_must_b h, tl_n, bMo_readTold_12]
def S73 (k o j : Nat) : Bool := S66b o j || (o == 173 && j == 80 + k)
theorem MOk_q {σ τ : mSt} {T : Nat → Int32} {n q : Nat} {S : Nat → Nat → Bool} (h : MOk σ T n q) (g : qt S σ τ) (h1 : ∀ k, S 170 k = false) (h2 : ∀ k, 9 ≤ k → k ≤ 19 → S 166 k = false) : MOk τ T n q := by
  obtain ⟨a1, ⟨b1, b2, b3, b4, b5, b6⟩, a3, a4, a5, a6, a7⟩ := h
  have e : ∀ k, 9 ≤ k → k ≤ 19 → τ.1 166 k = σ.1 166 k := fun k x1 x2 => (g 166 k (h2 k x1 x2)).1
  have e2 : ∀ k, 9 ≤ k → k ≤ 19 → τ.2 166 k = σ.2 166 k := fun k x1 x2 => (g 166 k (h2 k x1 x2)).2
  unfold MOk MT
  rw [e 12 (by omega) (by omega), e 9 (by omega) (by omega), e 14 (by omega) (by omega), e 15 (by omega) (by omega), e 16 (by omega) (by omega), e 17 (by omega) (by omega), e 18 (by omega) (by omega), e2 19 (by omega) (by omega)]
  exact ⟨a1, ⟨b1, b2, b3, b4, b5, b6⟩, (funext fun k => (g 170 k (h1 k)).1).trans a3, a4, a5, a6, a7⟩
theorem BOk_q {σ τ : mSt} {b np no nl : Nat} {w : Nat → Int64} {S : Nat → Nat → Bool} (h : BOk σ b w np no nl) (g : qt S σ τ) (h1 : ∀ k, k < 3 → S 171 (600 * b + k) = false) (h2 : ∀ k, k < 20 → S 173 (20 * b + k) = false) : BOk τ b w np no nl := by
  obtain ⟨a1, a2, a3, a4, a5, a6, a7, a8⟩ := h
  refine ⟨a1, a2, a3, a4, ?_, ?_, ?_, fun j hj => ?_⟩
  · rw [(g 171 (600 * b) (h1 0 (by omega))).1]; exact a5
  · rw [(g 171 (600 * b + 1) (h1 1 (by omega))).1]; exact a6
  · rw [(g 171 (600 * b + 2) (h1 2 (by omega))).1]; exact a7
  · rw [(g 173 (20 * b + j) (h2 j hj)).2]; exact a8 j hj
theorem Mo_readNew {E : mEn} {d : Nat} {Q : mPost} {τ : mSt} {T : Nat → Int32} {n q k np no nl : Nat} {w : Nat → Int64} (hk : k < 20) (h : MOk τ T n q) (hB : BOk τ 4 w np no nl) (h1 : ∀ x q', pNew T n w np no nl (bh T n q) = .ok (x, q') → ∀ υ, qt (S73 k) τ υ → MOk υ T n q' → υ.2 173 (80 + k) = x → Q none υ) (h2 : ∀ e, pNew T n w np no nl (bh T n q) = .error e → ∀ υ, qt S66b τ υ → MBad υ e → Q none υ) : WP E (d + 5) mMo_readNew 0 [.ref 166, .int (nI k)] [] τ Q := by
  rw [bMo_readNew_0]
  refine Mo_nx h (fun φ q1 g1 => ?_)
  have hB1 : BOk φ 4 w np no nl := BOk_q hB q1 (fun k _ => rfl) (fun k _ => rfl)
  rw [tl_n, bMo_readNew_4, Mo_isName g1, tl_s, bMo_readNew_8]
  unfold pNew at h1 h2
  generalize bh T n q = p at *
  by_cases z : isN T n p = true
  · rw [if_pos z] at h1 h2
    have e19 := isN_w g1 z
    rw [b2i_t z, if_pos i10, bMo_readNew_15, g1.1, ite_nn rfl, bMo_readNew_22, Mo_personNamed hB1, tl_s, bMo_readNew_27, e19]
    have F : tkB w np no nl (nmL T n p) = true → WP E (d + 5) mMo_readNew 46 [.ref 166, .int (nI k)] [] φ Q := fun y => by
      rw [if_pos y] at h2
      rw [bMo_readNew_46, g1.2.1.2.1]
      refine Mo_fail g1 (by omega) (by omega) (fun υ q2 g => ?_)
      rw [tl_n, bMo_readNew_55, if_neg (MBad_n g).2, bMo_readNew_62]
      exact h2 _ rfl υ (qt_tr q1 q2) g
    have ge : ∀ lo m, m ≤ 8 → (0 ≤ fnd w lo (nmL T n p) m 0 ↔ ¬ fnd w lo (nmL T n p) m 0 = -1) := fun lo m hm => by
      rcases fnd_s (w := w) (lo := lo) (x := nmL T n p) m 0 with y | ⟨k, -, kn, ek, -⟩
      · rw [y]; decide
      · rw [ek]
        exact ⟨fun _ => nI_m1 (by omega), fun _ => by rw [show (0 : Int32) = nI 0 from rfl]; exact nI_le (by omega) (by omega)⟩
    obtain ⟨-, a2, a3, a4, -⟩ := hB
    by_cases y1 : fnd w 0 (nmL T n p) np 0 = -1
    · rw [if_neg (fun g => (ge 0 np a2).mp g y1), bMo_readNew_30, Mo_ovenNamed hB1, tl_s, bMo_readNew_35, e19]
      by_cases y2 : fnd w 8 (nmL T n p) no 0 = -1
      · rw [if_neg (fun g => (ge 8 no (by omega)).mp g y2), bMo_readNew_38, Mo_loafNamed hB1, tl_s, bMo_readNew_43, e19]
        by_cases y3 : fnd w 12 (nmL T n p) nl 0 = -1
        · have y : ¬ tkB w np no nl (nmL T n p) = true := by simp only [tkB, y1, y2, y3, decide_true, Bool.and_self, Bool.not_true, Bool.false_eq_true, not_false_eq_true]
          rw [if_neg y] at h1
          rw [if_pos (Int32.not_le.mp (fun g => (ge 12 nl a4).mp g y3)), bMo_readNew_55, g1.1, if_pos (Int32.le_refl _), bMo_readNew_63, nI_add, mOut_f (by omega) (by omega), nI_clamp (by omega), e19, if_neg (by decide)]
          have q2 : qt (S73 k) φ (sL φ 173 (80 + k) (nmL T n p)) := qt_sL qt_rf (by simp [S73])
          have g2 : MOk (sL φ 173 (80 + k) (nmL T n p)) T n p := MOk_q (S := fun o _ => o == 173) g1 (qt_sL qt_rf rfl) (fun _ => rfl) (fun _ _ _ => rfl)
          refine Mo_nx g2 (fun υ q3 g3 => ?_)
          rw [tl_n, bMo_readNew_80]
          refine h1 _ _ rfl υ (qt_tr (qt_mono q1 (fun o k h => by simp [S73, h])) (qt_tr q2 (qt_mono q3 (fun o k h => by simp [S73, h])))) g3 ?_
          rw [(q3 173 (80 + k) rfl).2, sL_e]
        · rw [if_neg (Int32.not_lt.mpr ((ge 12 nl a4).mpr y3))]
          exact F (by simp [tkB, y3])
      · rw [if_pos ((ge 8 no (by omega)).mpr y2)]
        exact F (by simp [tkB, y2])
    · rw [if_pos ((ge 0 np a2).mpr y1)]
      exact F (by simp [tkB, y1])
  · rw [if_neg z] at h2
    rw [b2i_f z, ite_nn rfl, bMo_readNew_11]
    refine Mo_wrong g1 (fun υ q2 g => ?_)
    rw [tl_n, bMo_readNew_15, if_pos (MBad_n g).1, bMo_readNew_55, if_neg (MBad_n g).2, bMo_readNew_62]
    exact h2 _ rfl υ (qt_tr q1 q2) g
