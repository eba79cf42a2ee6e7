/-! days, class: the words of a step into the facts (9) -/
theorem To_takeCompares {E : mEn} {d : Nat} {Q : mPost} {τ : mSt} {T : Nat → Int32} {n q : Nat} {u : Value} (h : COk τ T n q) (h1 : ∀ x q', pCmp T n q = .ok (x, q') → ∀ υ, qt S6b τ υ → COk υ T n q' → Q (some (.int x)) υ) (h2 : ∀ e, pCmp T n q = .error e → ∀ υ, qt S6b τ υ → CBad υ e → Q (some (.int (-1))) υ) : WP E (d + 2) mTo_takeCompares 0 [.ref 6, u] [] τ Q := by
  have := kd_le (T := T) (n := n) (q := q)
  have B : pCmp T n q = .error (er T n q) → WP E (d + 2) mTo_takeCompares 24 [.ref 6, u] [] τ Q := fun z => by
    rw [bTo_takeCompares_24]
    refine To_misplaced h (fun υ q1 g => ?_)
    rw [tl_n, bTo_takeCompares_28]
    exact h2 _ z υ q1 g
  rw [bTo_takeCompares_0, h.1, ite_nn rfl, bTo_takeCompares_7, h.2.1.1]
  by_cases y : kd T n q = 3
  · have e7 : τ.1 6 7 = T (pl T n q) := h.2.1.2.2.2.2.1 y
    rw [ite_nn (by rw [y]), bTo_takeCompares_15, e7]
    by_cases z : T (pl T n q) = nI 59
    · rw [ite_nn z]
      exact B (by unfold pCmp; rw [if_pos y, if_pos z])
    · rw [if_pos z, bTo_takeCompares_30, e7]
      refine To_adv h (fun υ q1 g => ?_)
      rw [tl_n, bTo_takeCompares_39]
      exact h1 _ _ (by unfold pCmp; rw [if_pos y, if_neg z]) υ q1 g
  · rw [if_pos (show ¬ nI (kd T n q) = nI 3 from fun g => y ((nI_eq (by omega) (by omega)).mp g))]
    exact B (by unfold pCmp; rw [if_neg y])
theorem To_takeCompares_b {E : mEn} {d : Nat} {Q : mPost} {τ : mSt} {u : Value} (h : ¬ τ.1 6 9 = 0) : WP E (d + 2) mTo_takeCompares 0 [.ref 6, u] [] τ Q = Q (some (.int (-1))) τ := by
  rw [bTo_takeCompares_0, if_pos h, bTo_takeCompares_24, To_misplaced_b h, tl_n, bTo_takeCompares_28]
def F9 (τ : mSt) (g : Nat → Int32) : Prop := ∀ i, i < 5 → τ.1 9 i = g i
theorem F9_q {σ τ : mSt} {g : Nat → Int32} (h : F9 σ g) (q : qt S6b σ τ) : F9 τ g := fun i hi => ((q 9 i rfl).1).trans (h i hi)
theorem F9_s {σ : mSt} {g g' : Nat → Int32} {k : Nat} {v : Int32} (h : F9 σ g) (h1 : g' k = v) (h2 : ∀ i, i < 5 → i ≠ k → g' i = g i) : F9 (sI σ 9 k v) g' := fun i hi => by
  by_cases z : i = k
  · subst z; rw [sI_e]; exact h1.symm
  · rw [sI_n (Or.inr z), h i hi]; exact (h2 i hi z).symm
theorem F9_0 {σ : mSt} {a b c d e v : Int32} (h : F9 σ (g5 a b c d e)) : F9 (sI σ 9 0 v) (g5 v b c d e) := F9_s h rfl (fun i _ hn => by simp [g5, hn])
theorem F9_1 {σ : mSt} {a b c d e v : Int32} (h : F9 σ (g5 a b c d e)) : F9 (sI σ 9 1 v) (g5 a v c d e) := F9_s h rfl (fun i _ hn => by simp [g5, hn])
theorem F9_2 {σ : mSt} {a b c d e v : Int32} (h : F9 σ (g5 a b c d e)) : F9 (sI σ 9 2 v) (g5 a b v d e) := F9_s h rfl (fun i _ hn => by simp [g5, hn])
theorem F9_3 {σ : mSt} {a b c d e v : Int32} (h : F9 σ (g5 a b c d e)) : F9 (sI σ 9 3 v) (g5 a b c v e) := F9_s h rfl (fun i _ hn => by simp [g5, hn])
theorem CBad_9 {σ τ : mSt} {e : Nat × Nat} (h : CBad σ e) (q : qt S9 σ τ) : CBad τ e := ⟨(q 6 9 rfl).1.trans h.1, (q 6 10 rfl).1.trans h.2.1, h.2.2⟩
theorem COk_9 {σ : mSt} {T : Nat → Int32} {n q k : Nat} {v : Int32} (h : COk σ T n q) : COk (sI σ 9 k v) T n q := COk_q (S := S9) h (qt_sI qt_rf rfl) (fun _ => rfl) (fun _ => rfl) (fun _ => rfl)
theorem qt_69 {σ τ υ : mSt} (h : qt S9b σ τ) (g : qt S6b τ υ) : qt S9b σ υ := qt_tr h (qt_mono g (fun _ _ => S6_9))
theorem qt_9s {σ τ : mSt} {k : Nat} {v : Int32} (h : qt S9b σ τ) : qt S9b σ (sI τ 9 k v) := qt_sI h (by simp [S9b])
section TB
variable {E : mEn} {d : Nat} {Q : mPost} {τ : mSt} {s : Int32} {t : Nat} {a1 : Int32}
theorem rT53_b (ht : isT t) (hQ : ∀ υ, qt S9 τ υ → Q none υ) : WP E d mTe_readTest 53 [.ref 5, .ref (t + 1)] [.int s, .int (nI 3), .ref 9] τ Q := by
  rw [bTe_readTest_53 ht, if_neg (by decide), bTe_readTest_187 ht]
  exact hQ _ (qt_sI qt_rf rfl)
theorem rT37_b (ht : isT t) (h : ¬ τ.1 6 9 = 0) (hQ : ∀ υ, qt S9 τ υ → Q none υ) : WP E (d + 5) mTe_readTest 37 [.ref 5, .ref (t + 1)] [.int s, .int (nI 2), .ref 9] τ Q := by
  have h' : ¬ (sI τ 9 ((nI 2) : Int32).toNatClampNeg s).1 6 9 = 0 := h
  rw [bTe_readTest_37 ht, if_neg (by decide), To_takeNumber_b h', tl_s]
  exact rT53_b ht (fun υ q => hQ υ (qt_tr (qt_sI qt_rf rfl) q))
theorem rT114_b (ht : isT t) (hQ : ∀ υ, qt S9 τ υ → Q none υ) : WP E d mTe_readTest 114 [.ref 5, .ref (t + 1)] [.int s, .int (nI 3), .ref 9] τ Q := by
  rw [bTe_readTest_114 ht, if_neg (by decide), bTe_readTest_187 ht]
  exact hQ _ (qt_sI qt_rf rfl)
theorem rT97_b (ht : isT t) (h : ¬ τ.1 6 9 = 0) (hQ : ∀ υ, qt S9 τ υ → Q none υ) : WP E (d + 5) mTe_readTest 97 [.ref 5, .ref (t + 1)] [.int s, .int (nI 2), .ref 9] τ Q := by
  have h' : ¬ (sI τ 9 ((nI 2) : Int32).toNatClampNeg s).1 6 9 = 0 := h
  rw [bTe_readTest_97 ht, if_neg (by decide), To_takeNumber_b h', tl_s]
  exact rT114_b ht (fun υ q => hQ υ (qt_tr (qt_sI qt_rf rfl) q))
theorem rT84_b (ht : isT t) (h : ¬ τ.1 6 9 = 0) (hQ : ∀ υ, qt S9 τ υ → Q none υ) : WP E (d + 5) mTe_readTest 84 [.ref 5, .ref (t + 1)] [.int s, .int 1, .ref 9] τ Q := by
  have h' : ¬ (sI τ 9 (1 : Int32).toNatClampNeg s).1 6 9 = 0 := h
  rw [bTe_readTest_84 ht, if_neg (by decide), To_takeCompares_b h', tl_s]
  exact rT97_b ht h' (fun υ q => hQ υ (qt_tr (qt_sI qt_rf rfl) q))
theorem rT145_b (ht : isT t) (hQ : ∀ υ, qt S9 τ υ → Q none υ) : WP E d mTe_readTest 145 [.ref 5, .ref (t + 1)] [.int s, .int 1, .ref 9] τ Q := by
  rw [bTe_readTest_145 ht, if_neg (by decide), bTe_readTest_187 ht]
  exact hQ _ (qt_sI qt_rf rfl)
theorem rT176_b (ht : isT t) (hQ : ∀ υ, qt S9 τ υ → Q none υ) : WP E d mTe_readTest 176 [.ref 5, .ref (t + 1)] [.int s, .int 1, .ref 9] τ Q := by
  rw [bTe_readTest_176 ht, if_neg (by decide), bTe_readTest_187 ht]
  exact hQ _ (qt_sI qt_rf rfl)
theorem rS95_b (ht : isT t) (hQ : ∀ υ, qt S9 τ υ → Q none υ) : WP E d mTe_readStep 95 [.ref 5, .int a1, .ref (t + 1)] [.int s, .int 0, .ref 9] τ Q := by
  rw [bTe_readStep_95 ht, if_neg (by decide), bTe_readStep_251 ht]
  exact hQ _ (qt_sI qt_rf rfl)
theorem rS114_b (ht : isT t) (hQ : ∀ υ, qt S9 τ υ → Q none υ) : WP E d mTe_readStep 114 [.ref 5, .int a1, .ref (t + 1)] [.int s, .int 0, .ref 9] τ Q := by
  rw [bTe_readStep_114 ht, if_neg (by decide), bTe_readStep_251 ht]
  exact hQ _ (qt_sI qt_rf rfl)
theorem rS133_b (ht : isT t) (hQ : ∀ υ, qt S9 τ υ → Q none υ) : WP E d mTe_readStep 133 [.ref 5, .int a1, .ref (t + 1)] [.int s, .int 0, .ref 9] τ Q := by
  rw [bTe_readStep_133 ht, if_neg (by decide), bTe_readStep_251 ht]
  exact hQ _ (qt_sI qt_rf rfl)
theorem rS239_b (ht : isT t) (hQ : ∀ υ, qt S9 τ υ → Q none υ) : WP E d mTe_readStep 239 [.ref 5, .int a1, .ref (t + 1)] [.int s, .int 0, .ref 9] τ Q := by
  rw [bTe_readStep_239 ht, if_neg (by decide), bTe_readStep_251 ht]
  exact hQ _ (qt_sI qt_rf rfl)
theorem rS168_b (ht : isT t) (hQ : ∀ υ, qt S9 τ υ → Q none υ) : WP E d mTe_readStep 168 [.ref 5, .int a1, .ref (t + 1)] [.int s, .int 1, .ref 9] τ Q := by
  rw [bTe_readStep_168 ht, if_neg (by decide), bTe_readStep_251 ht]
  exact hQ _ (qt_sI qt_rf rfl)
theorem rS152_b (ht : isT t) (h : ¬ τ.1 6 9 = 0) (hQ : ∀ υ, qt S9 τ υ → Q none υ) : WP E (d + 5) mTe_readStep 152 [.ref 5, .int a1, .ref (t + 1)] [.int s, .int 0, .ref 9] τ Q := by
  have h' : ¬ (sI τ 9 (0 : Int32).toNatClampNeg s).1 6 9 = 0 := h
  rw [bTe_readStep_152 ht, if_neg (by decide), To_takeNumber_b h', tl_s]
  exact rS168_b ht (fun υ q => hQ υ (qt_tr (qt_sI qt_rf rfl) q))
theorem rS220_b (ht : isT t) (hQ : ∀ υ, qt S9 τ υ → Q none υ) : WP E d mTe_readStep 220 [.ref 5, .int a1, .ref (t + 1)] [.int s, .int (nI 2), .ref 9] τ Q := by
  rw [bTe_readStep_220 ht, if_neg (by decide), bTe_readStep_251 ht]
  exact hQ _ (qt_sI qt_rf rfl)
theorem rS203_b (ht : isT t) (h : ¬ τ.1 6 9 = 0) (hQ : ∀ υ, qt S9 τ υ → Q none υ) : WP E (d + 5) mTe_readStep 203 [.ref 5, .int a1, .ref (t + 1)] [.int s, .int 1, .ref 9] τ Q := by
  have h' : ¬ (sI τ 9 (1 : Int32).toNatClampNeg s).1 6 9 = 0 := h
  rw [bTe_readStep_203 ht, if_neg (by decide), To_takeNumber_b h', tl_s]
  exact rS220_b ht (fun υ q => hQ υ (qt_tr (qt_sI qt_rf rfl) q))
theorem rS187_b (ht : isT t) (h : ¬ τ.1 6 9 = 0) (hQ : ∀ υ, qt S9 τ υ → Q none υ) : WP E (d + 5) mTe_readStep 187 [.ref 5, .int a1, .ref (t + 1)] [.int s, .int 0, .ref 9] τ Q := by
  have h' : ¬ (sI τ 9 (0 : Int32).toNatClampNeg s).1 6 9 = 0 := h
  rw [bTe_readStep_187 ht, if_neg (by decide), To_takeName_b ht h', tl_s]
  exact rS203_b ht h' (fun υ q => hQ υ (qt_tr (qt_sI qt_rf rfl) q))
end TB
theorem Te_readTest {E : mEn} {d : Nat} {Q : mPost} {τ : mSt} {T : Nat → Int32} {n q t np no nl b : Nat} {w : Nat → Int64} {C : Nat → Int32} (ht : isT t) (h : COk τ T n q) (nO : ∀ {φ : mSt}, qt S9b τ φ → NOk φ t w np no nl) (hz : F9 τ (g5 0 0 0 0 0))
    (h1 : ∀ g C' q', pTst T n w np no nl b C q = .ok (g, C', q') → ∀ υ, qt S9b τ υ → COk υ T n q' → F9 υ g → Q none υ)
    (h2 : ∀ e, pTst T n w np no nl b C q = .error e → ∀ υ, qt S9b τ υ → CBad υ e → Q none υ) : WP E (d + 5) mTe_readTest 0 [.ref 5, .ref (t + 1)] [] τ Q := by
  unfold pTst at h1 h2
  rw [bTe_readTest_0 ht, To_wordHere h, tl_s, bTe_readTest_12 ht, if_neg (by decide), show (0 : Int32).toNatClampNeg = 0 from rfl]
  have g0 := COk_9 (k := 0) (v := wH T n q) h
  have t0 : qt S9b τ (sI τ 9 0 (wH T n q)) := qt_9s qt_rf
  have f0 : F9 (sI τ 9 0 (wH T n q)) (g5 (wH T n q) 0 0 0 0) := F9_0 hz
  generalize sI τ 9 0 (wH T n q) = φ0 at *
  refine To_skips g0 (by omega) (fun y φ1 s1 g1 => ?_) (fun y => ?_)
  · rw [if_pos y] at h1 h2
    rw [tl_s, bTe_readTest_22 ht, if_neg i10, bTe_readTest_25 ht]
    rw [wH_k (by omega) y] at f0
    have t1 := qt_69 t0 s1
    have f1 := F9_q f0 s1
    refine To_takeCompares g1 (fun x q1x e1x φ1x s1x g1x => ?_) (fun e ee υ s1x g1x => ?_)
    rotate_left
    · rw [show pCmp T n (bh T n q) = .error e from ee] at h2
      rw [tl_s]
      exact rT37_b ht (CBad_n g1x) (fun ω r => h2 _ rfl ω (qt_tr (qt_69 t1 s1x) (qt_mono r (fun _ _ => S9_b))) (CBad_9 g1x r))
    rw [show pCmp T n (bh T n q) = .ok (x, q1x) from e1x] at h1 h2
    dsimp only [pN1] at h1 h2
    rw [tl_s, bTe_readTest_37 ht, if_neg (by decide), show (nI 2).toNatClampNeg = 2 from rfl]
    have f1x : F9 (sI φ1x 9 2 (x)) (g5 (nI 21) (0) (x) (0) (0)) := F9_2 (F9_q f1 s1x)
    have t1x := qt_9s (k := 2) (v := x) (qt_69 t1 s1x)
    have g1xy := COk_9 (k := 2) (v := x) g1x
    have lo2 : (0 : Int32) = nI 0 := rfl
    refine To_takeNumber (lo := 0) g1xy (by omega) (by omega) (fun v q2x e2x φ2x s2x g2x => ?_) (fun e ee υ s2x g2x => ?_)
    rotate_left
    · rw [show pNum T n 0 99 q1x = .error e from ee] at h2
      rw [tl_s]
      exact rT53_b ht (fun ω r => h2 _ rfl ω (qt_tr (qt_69 t1x s2x) (qt_mono r (fun _ _ => S9_b))) (CBad_9 g2x r))
    rw [show pNum T n 0 99 q1x = .ok (v, q2x) from e2x] at h1 h2
    dsimp only [pN1] at h1 h2
    rw [tl_s, bTe_readTest_53 ht, if_neg (by decide), show (nI 3).toNatClampNeg = 3 from rfl]
    have f2x : F9 (sI φ2x 9 3 (nI v)) (g5 (nI 21) (0) (x) (nI v) (0)) := F9_3 (F9_q f1x s2x)
    have t2x := qt_9s (k := 3) (v := nI v) (qt_69 t1x s2x)
    have g2xy := COk_9 (k := 3) (v := nI v) g2x
    rw [bTe_readTest_187 ht]
    exact h1 _ _ _ rfl _ t2x g2xy f2x
  rw [if_neg y] at h1 h2
  rw [tl_s, bTe_readTest_22 ht, if_pos rfl, bTe_readTest_57 ht]
  refine To_skips g0 (by omega) (fun y φ1 s1 g1 => ?_) (fun y => ?_)
  · rw [if_pos y] at h1 h2
    rw [tl_s, bTe_readTest_66 ht, if_neg i10, bTe_readTest_69 ht]
    rw [wH_k (by omega) y] at f0
    have t1 := qt_69 t0 s1
    have f1 := F9_q f0 s1
    refine To_takeName (a := 0) ht (by omega) g1 (nO t1) (fun p q3x e3x l3x φ3x s3x g3x => ?_) (fun e v ee υ s3x g3x => ?_)
    rotate_left
    · rw [show pName T n w 0 np (-1) (bh T n q) = .error e from ee] at h2
      rw [tl_s]
      exact rT84_b ht (CBad_n g3x) (fun ω r => h2 _ rfl ω (qt_tr (qt_69 t1 s3x) (qt_mono r (fun _ _ => S9_b))) (CBad_9 g3x r))
    rw [show pName T n w 0 np (-1) (bh T n q) = .ok (p, q3x) from e3x] at h1 h2
    dsimp only [pN1] at h1 h2
    rw [tl_s, bTe_readTest_84 ht, if_neg (by decide), show (1 : Int32).toNatClampNeg = 1 from rfl]
    have f3x : F9 (sI φ3x 9 1 (nI p)) (g5 (nI 22) (nI p) (0) (0) (0)) := F9_1 (F9_q f1 s3x)
    have t3x := qt_9s (k := 1) (v := nI p) (qt_69 t1 s3x)
    have g3xy := COk_9 (k := 1) (v := nI p) g3x
    refine To_takeCompares g3xy (fun x q4x e4x φ4x s4x g4x => ?_) (fun e ee υ s4x g4x => ?_)
    rotate_left
    · rw [show pCmp T n q3x = .error e from ee] at h2
      rw [tl_s]
      exact rT97_b ht (CBad_n g4x) (fun ω r => h2 _ rfl ω (qt_tr (qt_69 t3x s4x) (qt_mono r (fun _ _ => S9_b))) (CBad_9 g4x r))
    rw [show pCmp T n q3x = .ok (x, q4x) from e4x] at h1 h2
    dsimp only [pN1] at h1 h2
    rw [tl_s, bTe_readTest_97 ht, if_neg (by decide), show (nI 2).toNatClampNeg = 2 from rfl]
    have f4x : F9 (sI φ4x 9 2 (x)) (g5 (nI 22) (nI p) (x) (0) (0)) := F9_2 (F9_q f3x s4x)
    have t4x := qt_9s (k := 2) (v := x) (qt_69 t3x s4x)
    have g4xy := COk_9 (k := 2) (v := x) g4x
    have lo5 : (0 : Int32) = nI 0 := rfl
    refine To_takeNumber (lo := 0) g4xy (by omega) (by omega) (fun v q5x e5x φ5x s5x g5x => ?_) (fun e ee υ s5x g5x => ?_)
    rotate_left
    · rw [show pNum T n 0 999 q4x = .error e from ee] at h2
      rw [tl_s]
      exact rT114_b ht (fun ω r => h2 _ rfl ω (qt_tr (qt_69 t4x s5x) (qt_mono r (fun _ _ => S9_b))) (CBad_9 g5x r))
    rw [show pNum T n 0 999 q4x = .ok (v, q5x) from e5x] at h1 h2
    dsimp only [pN1] at h1 h2
    rw [tl_s, bTe_readTest_114 ht, if_neg (by decide), show (nI 3).toNatClampNeg = 3 from rfl]
    have f5x : F9 (sI φ5x 9 3 (nI v)) (g5 (nI 22) (nI p) (x) (nI v) (0)) := F9_3 (F9_q f4x s5x)
    have t5x := qt_9s (k := 3) (v := nI v) (qt_69 t4x s5x)
    have g5xy := COk_9 (k := 3) (v := nI v) g5x
    rw [bTe_readTest_187 ht]
    exact h1 _ _ _ rfl _ t5x g5xy f5x
  rw [if_neg y] at h1 h2
  rw [tl_s, bTe_readTest_66 ht, if_pos rfl, bTe_readTest_118 ht]
  refine To_skips g0 (by omega) (fun y φ1 s1 g1 => ?_) (fun y => ?_)
  · rw [if_pos y] at h1 h2
    rw [tl_s, bTe_readTest_127 ht, if_neg i10, bTe_readTest_130 ht]
    rw [wH_k (by omega) y] at f0
    have t1 := qt_69 t0 s1
    have f1 := F9_q f0 s1
    refine To_takeName (a := 2) ht (by omega) g1 (nO t1) (fun p q6x e6x l6x φ6x s6x g6x => ?_) (fun e v ee υ s6x g6x => ?_)
    rotate_left
    · rw [show pName T n w 12 nl (-1) (bh T n q) = .error e from ee] at h2
      rw [tl_s]
      exact rT145_b ht (fun ω r => h2 _ rfl ω (qt_tr (qt_69 t1 s6x) (qt_mono r (fun _ _ => S9_b))) (CBad_9 g6x r))
    rw [show pName T n w 12 nl (-1) (bh T n q) = .ok (p, q6x) from e6x] at h1 h2
    dsimp only [pN1] at h1 h2
    rw [tl_s, bTe_readTest_145 ht, if_neg (by decide), show (1 : Int32).toNatClampNeg = 1 from rfl]
    have f6x : F9 (sI φ6x 9 1 (nI p)) (g5 (nI 23) (nI p) (0) (0) (0)) := F9_1 (F9_q f1 s6x)
    have t6x := qt_9s (k := 1) (v := nI p) (qt_69 t1 s6x)
    have g6xy := COk_9 (k := 1) (v := nI p) g6x
    rw [bTe_readTest_187 ht]
    exact h1 _ _ _ rfl _ t6x g6xy f6x
  rw [if_neg y] at h1 h2
  rw [tl_s, bTe_readTest_127 ht, if_pos rfl, bTe_readTest_149 ht]
  refine To_skips g0 (by omega) (fun y φ1 s1 g1 => ?_) (fun y => ?_)
  · rw [if_pos y] at h1 h2
    rw [tl_s, bTe_readTest_158 ht, if_neg i10, bTe_readTest_161 ht]
    rw [wH_k (by omega) y] at f0
    have t1 := qt_69 t0 s1
    have f1 := F9_q f0 s1
    refine To_takeName (a := 1) ht (by omega) g1 (nO t1) (fun p q7x e7x l7x φ7x s7x g7x => ?_) (fun e v ee υ s7x g7x => ?_)
    rotate_left
    · rw [show pName T n w 8 no (-1) (bh T n q) = .error e from ee] at h2
      rw [tl_s]
      exact rT176_b ht (fun ω r => h2 _ rfl ω (qt_tr (qt_69 t1 s7x) (qt_mono r (fun _ _ => S9_b))) (CBad_9 g7x r))
    rw [show pName T n w 8 no (-1) (bh T n q) = .ok (p, q7x) from e7x] at h1 h2
    dsimp only [pN1] at h1 h2
    rw [tl_s, bTe_readTest_176 ht, if_neg (by decide), show (1 : Int32).toNatClampNeg = 1 from rfl]
    have f7x : F9 (sI φ7x 9 1 (nI p)) (g5 (nI 24) (nI p) (0) (0) (0)) := F9_1 (F9_q f1 s7x)
    have t7x := qt_9s (k := 1) (v := nI p) (qt_69 t1 s7x)
    have g7xy := COk_9 (k := 1) (v := nI p) g7x
    rw [bTe_readTest_187 ht]
    exact h1 _ _ _ rfl _ t7x g7xy f7x
  rw [if_neg y] at h1 h2
  rw [tl_s, bTe_readTest_158 ht, if_pos rfl, bTe_readTest_180 ht]
  refine To_misplaced g0 (fun υ s1 g1 => ?_)
  rw [tl_n, bTe_readTest_187 ht]
  exact h2 _ rfl υ (qt_69 t0 s1) g1
theorem Te_readStep {E : mEn} {d : Nat} {Q : mPost} {τ : mSt} {T : Nat → Int32} {n q t np no nl b k : Nat} {w : Nat → Int64} {C : Nat → Int32} (ht : isT t) (n8 : np ≤ 8) (hk : k ∈ stL) (hw : isW T n q k = true) (h : COk τ T n q) (nO : ∀ {φ : mSt}, qt S9b τ φ → NOk φ t w np no nl) (hz : F9 τ (g5 0 0 0 0 0))
    (h1 : ∀ g C' q', pRst T n w np no nl k b C (bh T n q) = .ok (g, C', q') → ∀ υ, qt S9b τ υ → COk υ T n q' → F9 υ g → Q none υ)
    (h2 : ∀ e, pRst T n w np no nl k b C (bh T n q) = .error e → ∀ υ, qt S9b τ υ → CBad υ e → Q none υ) : WP E (d + 6) mTe_readStep 0 [.ref 5, .int (nI k), .ref (t + 1)] [] τ Q := by
  have k28 := (stL_28 hk).1
  by_cases k10 : k = 10
  · subst k10
    rw [show pRst T n w np no nl 10 b C (bh T n q) = (match pPt T n w np nl (bh T n q) with
      | .error e => .error e
      | .ok ((s, l, p, r, f), q1) => .ok (g5 (nI s) (nI l) (nI p) (nI r) (nI f), upd (upd (upd (upd (upd C (b + 1) (nI s)) (b + 2) (nI l)) (b + 3) (nI p)) (b + 4) (nI r)) (b + 5) (nI f), q1)) from rfl, ← pPart_t hw] at h1 h2
    rw [bTe_readStep_0 ht, ite_nn rfl, bTe_readStep_6 ht]
    refine Te_readPromise ht n8 h nO (fun s l p r f q1 e1 _ _ _ _ _ _ _ υ t1 g1 a0 a1 a2 a3 a4 => ?_) (fun e ee υ t1 g1 => ?_)
    · rw [e1] at h1
      dsimp only at h1
      rw [tl_n, bTe_readStep_11 ht]
      refine h1 _ _ _ rfl υ t1 g1 (fun i hi => ?_)
      have : i = 0 ∨ i = 1 ∨ i = 2 ∨ i = 3 ∨ i = 4 := by omega
      rcases this with rfl | rfl | rfl | rfl | rfl
      · exact a0
      · exact a1
      · exact a2
      · exact a3
      · exact a4
    · rw [ee] at h2
      rw [tl_n, bTe_readStep_11 ht]
      exact h2 _ rfl υ t1 g1
  rw [bTe_readStep_0 ht, if_pos (fun g => k10 ((nI_eq (by omega) (by omega)).mp g)), bTe_readStep_12 ht]
  refine To_takeWord h k28 (fun _ φ0 s0 g0 => ?_) (fun z => absurd hw z)
  have t0 := qt_69 (qt_rf : qt S9b τ τ) s0
  have f0 := F9_q hz s0
  rw [tl_n, bTe_readStep_20 ht]
  simp only [stL, List.mem_cons, List.not_mem_nil, or_false] at hk
  rcases hk with rfl | rfl | rfl | rfl | rfl | rfl | rfl | rfl | rfl
  · exact absurd rfl k10
  · rw [show pRst T n w np no nl 19 b C (bh T n q) = pN1 b C (pNum T n 0 39 (bh T n q)) from rfl] at h1 h2
    rw [bTe_readStep_20_s19, bTe_readStep_80 ht]
    have lo8 : (0 : Int32) = nI 0 := rfl
    refine To_takeNumber (lo := 0) g0 (by omega) (by omega) (fun a q8x e8x φ8x s8x g8x => ?_) (fun e ee υ s8x g8x => ?_)
    rotate_left
    · rw [show pNum T n 0 39 (bh T n q) = .error e from ee] at h2
      rw [tl_s]
      exact rS95_b ht (fun ω r => h2 _ rfl ω (qt_tr (qt_69 t0 s8x) (qt_mono r (fun _ _ => S9_b))) (CBad_9 g8x r))
    rw [show pNum T n 0 39 (bh T n q) = .ok (a, q8x) from e8x] at h1 h2
    dsimp only [pN1] at h1 h2
    rw [tl_s, bTe_readStep_95 ht, if_neg (by decide), show (0 : Int32).toNatClampNeg = 0 from rfl]
    have f8x : F9 (sI φ8x 9 0 (nI a)) (g5 (nI a) (0) (0) (0) (0)) := F9_0 (F9_q f0 s8x)
    have t8x := qt_9s (k := 0) (v := nI a) (qt_69 t0 s8x)
    have g8xy := COk_9 (k := 0) (v := nI a) g8x
    rw [bTe_readStep_251 ht]
    exact h1 _ _ _ rfl _ t8x g8xy f8x
  · rw [show pRst T n w np no nl 15 b C (bh T n q) = pN1 b C (pName T n w 12 nl (-1) (bh T n q)) from rfl] at h1 h2
    rw [bTe_readStep_20_s15, bTe_readStep_99 ht]
    refine To_takeName (a := 2) ht (by omega) g0 (nO t0) (fun a q9x e9x l9x φ9x s9x g9x => ?_) (fun e v ee υ s9x g9x => ?_)
    rotate_left
    · rw [show pName T n w 12 nl (-1) (bh T n q) = .error e from ee] at h2
      rw [tl_s]
      exact rS114_b ht (fun ω r => h2 _ rfl ω (qt_tr (qt_69 t0 s9x) (qt_mono r (fun _ _ => S9_b))) (CBad_9 g9x r))
    rw [show pName T n w 12 nl (-1) (bh T n q) = .ok (a, q9x) from e9x] at h1 h2
    dsimp only [pN1] at h1 h2
    rw [tl_s, bTe_readStep_114 ht, if_neg (by decide), show (0 : Int32).toNatClampNeg = 0 from rfl]
    have f9x : F9 (sI φ9x 9 0 (nI a)) (g5 (nI a) (0) (0) (0) (0)) := F9_0 (F9_q f0 s9x)
    have t9x := qt_9s (k := 0) (v := nI a) (qt_69 t0 s9x)
    have g9xy := COk_9 (k := 0) (v := nI a) g9x
    rw [bTe_readStep_251 ht]
    exact h1 _ _ _ rfl _ t9x g9xy f9x
  · rw [show pRst T n w np no nl 16 b C (bh T n q) = pN1 b C (pNum T n 1 9 (bh T n q)) from rfl] at h1 h2
    rw [bTe_readStep_20_s16, bTe_readStep_118 ht]
    have lo10 : (1 : Int32) = nI 1 := rfl
    refine To_takeNumber (lo := 1) g0 (by omega) (by omega) (fun a q10x e10x φ10x s10x g10x => ?_) (fun e ee υ s10x g10x => ?_)
    rotate_left
    · rw [show pNum T n 1 9 (bh T n q) = .error e from ee] at h2
      rw [tl_s]
      exact rS133_b ht (fun ω r => h2 _ rfl ω (qt_tr (qt_69 t0 s10x) (qt_mono r (fun _ _ => S9_b))) (CBad_9 g10x r))
    rw [show pNum T n 1 9 (bh T n q) = .ok (a, q10x) from e10x] at h1 h2
    dsimp only [pN1] at h1 h2
    rw [tl_s, bTe_readStep_133 ht, if_neg (by decide), show (0 : Int32).toNatClampNeg = 0 from rfl]
    have f10x : F9 (sI φ10x 9 0 (nI a)) (g5 (nI a) (0) (0) (0) (0)) := F9_0 (F9_q f0 s10x)
    have t10x := qt_9s (k := 0) (v := nI a) (qt_69 t0 s10x)
    have g10xy := COk_9 (k := 0) (v := nI a) g10x
    rw [bTe_readStep_251 ht]
    exact h1 _ _ _ rfl _ t10x g10xy f10x
  · rw [show pRst T n w np no nl 17 b C (bh T n q) = (match pName T n w 0 np (-1) (bh T n q) with
    | .error e => .error e
    | .ok (p, q1) => match pNum T n 1 99 q1 with
      | .error e => .error e
      | .ok (a, q2) => .ok (g5 (nI p) (nI a) 0 0 0, upd (upd C (b + 1) (nI p)) (b + 2) (nI a), q2)) from rfl] at h1 h2
    rw [bTe_readStep_20_s17, bTe_readStep_137 ht]
    refine To_takeName (a := 0) ht (by omega) g0 (nO t0) (fun p q11x e11x l11x φ11x s11x g11x => ?_) (fun e v ee υ s11x g11x => ?_)
    rotate_left
    · rw [show pName T n w 0 np (-1) (bh T n q) = .error e from ee] at h2
      rw [tl_s]
      exact rS152_b ht (CBad_n g11x) (fun ω r => h2 _ rfl ω (qt_tr (qt_69 t0 s11x) (qt_mono r (fun _ _ => S9_b))) (CBad_9 g11x r))
    rw [show pName T n w 0 np (-1) (bh T n q) = .ok (p, q11x) from e11x] at h1 h2
    dsimp only [pN1] at h1 h2
    rw [tl_s, bTe_readStep_152 ht, if_neg (by decide), show (0 : Int32).toNatClampNeg = 0 from rfl]
    have f11x : F9 (sI φ11x 9 0 (nI p)) (g5 (nI p) (0) (0) (0) (0)) := F9_0 (F9_q f0 s11x)
    have t11x := qt_9s (k := 0) (v := nI p) (qt_69 t0 s11x)
    have g11xy := COk_9 (k := 0) (v := nI p) g11x
    have lo12 : (1 : Int32) = nI 1 := rfl
    refine To_takeNumber (lo := 1) g11xy (by omega) (by omega) (fun a q12x e12x φ12x s12x g12x => ?_) (fun e ee υ s12x g12x => ?_)
    rotate_left
    · rw [show pNum T n 1 99 q11x = .error e from ee] at h2
      rw [tl_s]
      exact rS168_b ht (fun ω r => h2 _ rfl ω (qt_tr (qt_69 t11x s12x) (qt_mono r (fun _ _ => S9_b))) (CBad_9 g12x r))
    rw [show pNum T n 1 99 q11x = .ok (a, q12x) from e12x] at h1 h2
    dsimp only [pN1] at h1 h2
    rw [tl_s, bTe_readStep_168 ht, if_neg (by decide), show (1 : Int32).toNatClampNeg = 1 from rfl]
    have f12x : F9 (sI φ12x 9 1 (nI a)) (g5 (nI p) (nI a) (0) (0) (0)) := F9_1 (F9_q f11x s12x)
    have t12x := qt_9s (k := 1) (v := nI a) (qt_69 t11x s12x)
    have g12xy := COk_9 (k := 1) (v := nI a) g12x
    rw [bTe_readStep_251 ht]
    exact h1 _ _ _ rfl _ t12x g12xy f12x
  · rw [show pRst T n w np no nl 18 b C (bh T n q) = (match pName T n w 0 np (-1) (bh T n q) with
    | .error e => .error e
    | .ok (p, q1) => match pName T n w 0 np (-1) q1 with
      | .error e => .error e
      | .ok (r, q2) => match pNum T n 1 999 q2 with
        | .error e => .error e
        | .ok (a, q3) => .ok (g5 (nI p) (nI r) (nI a) 0 0, upd (upd (upd C (b + 1) (nI p)) (b + 2) (nI r)) (b + 3) (nI a), q3)) from rfl] at h1 h2
    rw [bTe_readStep_20_s18, bTe_readStep_172 ht]
    refine To_takeName (a := 0) ht (by omega) g0 (nO t0) (fun p q13x e13x l13x φ13x s13x g13x => ?_) (fun e v ee υ s13x g13x => ?_)
    rotate_left
    · rw [show pName T n w 0 np (-1) (bh T n q) = .error e from ee] at h2
      rw [tl_s]
      exact rS187_b ht (CBad_n g13x) (fun ω r => h2 _ rfl ω (qt_tr (qt_69 t0 s13x) (qt_mono r (fun _ _ => S9_b))) (CBad_9 g13x r))
    rw [show pName T n w 0 np (-1) (bh T n q) = .ok (p, q13x) from e13x] at h1 h2
    dsimp only [pN1] at h1 h2
    rw [tl_s, bTe_readStep_187 ht, if_neg (by decide), show (0 : Int32).toNatClampNeg = 0 from rfl]
    have f13x : F9 (sI φ13x 9 0 (nI p)) (g5 (nI p) (0) (0) (0) (0)) := F9_0 (F9_q f0 s13x)
    have t13x := qt_9s (k := 0) (v := nI p) (qt_69 t0 s13x)
    have g13xy := COk_9 (k := 0) (v := nI p) g13x
    refine To_takeName (a := 0) ht (by omega) g13xy (nO t13x) (fun r q14x e14x l14x φ14x s14x g14x => ?_) (fun e v ee υ s14x g14x => ?_)
    rotate_left
    · rw [show pName T n w 0 np (-1) q13x = .error e from ee] at h2
      rw [tl_s]
      exact rS203_b ht (CBad_n g14x) (fun ω r => h2 _ rfl ω (qt_tr (qt_69 t13x s14x) (qt_mono r (fun _ _ => S9_b))) (CBad_9 g14x r))
    rw [show pName T n w 0 np (-1) q13x = .ok (r, q14x) from e14x] at h1 h2
    dsimp only [pN1] at h1 h2
    rw [tl_s, bTe_readStep_203 ht, if_neg (by decide), show (1 : Int32).toNatClampNeg = 1 from rfl]
    have f14x : F9 (sI φ14x 9 1 (nI r)) (g5 (nI p) (nI r) (0) (0) (0)) := F9_1 (F9_q f13x s14x)
    have t14x := qt_9s (k := 1) (v := nI r) (qt_69 t13x s14x)
    have g14xy := COk_9 (k := 1) (v := nI r) g14x
    have lo15 : (1 : Int32) = nI 1 := rfl
    refine To_takeNumber (lo := 1) g14xy (by omega) (by omega) (fun a q15x e15x φ15x s15x g15x => ?_) (fun e ee υ s15x g15x => ?_)
    rotate_left
    · rw [show pNum T n 1 999 q14x = .error e from ee] at h2
      rw [tl_s]
      exact rS220_b ht (fun ω r => h2 _ rfl ω (qt_tr (qt_69 t14x s15x) (qt_mono r (fun _ _ => S9_b))) (CBad_9 g15x r))
    rw [show pNum T n 1 999 q14x = .ok (a, q15x) from e15x] at h1 h2
    dsimp only [pN1] at h1 h2
    rw [tl_s, bTe_readStep_220 ht, if_neg (by decide), show (nI 2).toNatClampNeg = 2 from rfl]
    have f15x : F9 (sI φ15x 9 2 (nI a)) (g5 (nI p) (nI r) (nI a) (0) (0)) := F9_2 (F9_q f14x s15x)
    have t15x := qt_9s (k := 2) (v := nI a) (qt_69 t14x s15x)
    have g15xy := COk_9 (k := 2) (v := nI a) g15x
    rw [bTe_readStep_251 ht]
    exact h1 _ _ _ rfl _ t15x g15xy f15x
  · rw [show pRst T n w np no nl 20 b C (bh T n q) = pTst T n w np no nl b C (bh T n q) from rfl] at h1 h2
    rw [bTe_readStep_20_s20, bTe_readStep_243 ht]
    refine Te_readTest (b := b) (C := C) ht g0 (fun q1 => nO (qt_tr t0 q1)) f0 (fun g C' q' e1 υ t1 g1 f1 => ?_) (fun e ee υ t1 g1 => ?_)
    · rw [tl_n, bTe_readStep_248 ht, bTe_readStep_251 ht]
      exact h1 g C' q' e1 υ (qt_tr t0 t1) g1 f1
    · rw [tl_n, bTe_readStep_248 ht, bTe_readStep_251 ht]
      exact h2 e ee υ (qt_tr t0 t1) g1
  · rw [show pRst T n w np no nl 25 b C (bh T n q) = pN1 b C (pNum T n 1 99 (bh T n q)) from rfl] at h1 h2
    rw [bTe_readStep_20_s25, bTe_readStep_224 ht]
    have lo16 : (1 : Int32) = nI 1 := rfl
    refine To_takeNumber (lo := 1) g0 (by omega) (by omega) (fun a q16x e16x φ16x s16x g16x => ?_) (fun e ee υ s16x g16x => ?_)
    rotate_left
    · rw [show pNum T n 1 99 (bh T n q) = .error e from ee] at h2
      rw [tl_s]
      exact rS239_b ht (fun ω r => h2 _ rfl ω (qt_tr (qt_69 t0 s16x) (qt_mono r (fun _ _ => S9_b))) (CBad_9 g16x r))
    rw [show pNum T n 1 99 (bh T n q) = .ok (a, q16x) from e16x] at h1 h2
    dsimp only [pN1] at h1 h2
    rw [tl_s, bTe_readStep_239 ht, if_neg (by decide), show (0 : Int32).toNatClampNeg = 0 from rfl]
    have f16x : F9 (sI φ16x 9 0 (nI a)) (g5 (nI a) (0) (0) (0) (0)) := F9_0 (F9_q f0 s16x)
    have t16x := qt_9s (k := 0) (v := nI a) (qt_69 t0 s16x)
    have g16xy := COk_9 (k := 0) (v := nI a) g16x
    rw [bTe_readStep_251 ht]
    exact h1 _ _ _ rfl _ t16x g16xy f16x
  · rw [show pRst T n w np no nl 27 b C (bh T n q) = .ok (g5 0 0 0 0 0, C, bh T n q) from rfl] at h1 h2
    rw [bTe_readStep_20_sD (fun j h1 h2 g => by have := (nI_eq (a := 27) (by omega) (by omega)).mp g; omega), bTe_readStep_251 ht]
    exact h1 _ _ _ rfl _ t0 g0 f0
