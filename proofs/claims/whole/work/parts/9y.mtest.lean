/-! days, class: the whole reading; the reference: the words of a step -/
def SDo (t o k : Nat) : Bool := SDy t o k || S6o o k
theorem Te_readDays {E : mEn} {d : Nat} {Q : mPost} {σ : mSt} {n m s t np no nl : Nat} {w : Nat → Int64} {C : Nat → Int32} {u4 u5 : Value} (hs : isT s) (ht : isT t) (n8 : np ≤ 8) (hm : σ.1 6 2 = nI m) (hm9 : m ≤ 900) (hn : n ≤ m) (hk : RKw σ) (nO : ∀ {φ : mSt}, qt (SDo t) σ φ → NOk φ s w np no nl)
    (h1 : ∀ C' F' ns r q υ, pSq (σ.1 7) n w np no nl 31 0 C (σ.1 (t + 13)) 0 0 0 = .ok (C', F', ns, r, q) → qt (SDo t) σ υ → υ.1 6 2 = 0 → υ.1 6 9 = 0 → υ.1 6 10 = -1 → υ.1 (t + 13) = F' → υ.1 (t + 12) 3 = nI r → υ.1 (t + 12) 4 = nI ns → υ.1 (t + 12) 5 = 1 → ns ≤ 30 → r ≤ 60 → Q (some (.int 1)) υ)
    (h2 : ∀ e υ, pSq (σ.1 7) n w np no nl 31 0 C (σ.1 (t + 13)) 0 0 0 = .error e → qt (SDo t) σ υ → υ.1 6 2 = 0 → CBad υ e → Q (some (.int 0)) υ) : WP E (d + 8) mTe_readDays 0 [.ref 5, .ref (s + 1), .ref (t + 12), .int (nI n), u4, u5] [] σ Q := by
  have tl := isT_lt ht
  rw [bTe_readDays_0 hs ht, bDa_clear_0 ht, tl_n, bTe_readDays_4 hs ht]
  have q1 : qt (SDt t) σ (sI (sI (sI (sI σ (t + 12) 2 0) (t + 12) 3 0) (t + 12) 4 0) (t + 12) 5 0) := by
    repeat' (first | exact qt_rf | refine qt_sI ?_ (by simp [SDt]))
  have e2 : (sI (sI (sI (sI σ (t + 12) 2 0) (t + 12) 3 0) (t + 12) 4 0) (t + 12) 5 0).1 (t + 12) 2 = nI 0 := by simp (disch := omega) only [sI_n, sI_e]; rfl
  have e3 : (sI (sI (sI (sI σ (t + 12) 2 0) (t + 12) 3 0) (t + 12) 4 0) (t + 12) 5 0).1 (t + 12) 3 = nI 0 := by simp (disch := omega) only [sI_n, sI_e]; rfl
  have e4 : (sI (sI (sI (sI σ (t + 12) 2 0) (t + 12) 3 0) (t + 12) 4 0) (t + 12) 5 0).1 (t + 12) 4 = nI 0 := by simp (disch := omega) only [sI_n, sI_e]; rfl
  have e13 : (sI (sI (sI (sI σ (t + 12) 2 0) (t + 12) 3 0) (t + 12) 4 0) (t + 12) 5 0).1 (t + 13) = σ.1 (t + 13) := by
    rw [sI_1 (by omega), sI_1 (by omega), sI_1 (by omega), sI_1 (by omega)]
  generalize sI (sI (sI (sI σ (t + 12) 2 0) (t + 12) 3 0) (t + 12) 4 0) (t + 12) 5 0 = φ at *
  have Sx : ∀ o k, o < 10 → SDt t o k = false := fun o k h => by simp only [SDt, Bool.or_eq_false_iff, beq_eq_false_iff_ne]; omega
  have hk1 : RKw φ := fun k h => ((q1 8 k (Sx _ _ (by omega))).2).trans (hk k h)
  have e7 : φ.1 7 = σ.1 7 := funext fun k => (q1 7 k (Sx _ _ (by omega))).1
  refine To_open (d := d + 5) ((q1 6 2 (Sx _ _ (by omega))).1.trans hm) hm9 hn hk1 (fun ψ q2 g3 g4 g5 => ?_)
  rw [e7] at g3
  have So : ∀ j k, S6o (t + j) k = false := fun j k => by simp only [S6o, Bool.and_eq_false_iff, beq_eq_false_iff_ne, decide_eq_false_iff_not]; omega
  have q12 : qt (SDo t) σ ψ := qt_tr (qt_mono q1 (fun o k h => by simp only [SDo, SDy, h, Bool.or_true, Bool.true_or])) (qt_mono q2 (fun o k h => by simp only [SDo, h, Bool.or_true]))
  have yo : ∀ {υ : mSt}, qt (SDy t) ψ υ → qt (SDo t) σ υ := fun q => qt_tr q12 (qt_mono q (fun o k h => by simp only [SDo, h, Bool.true_or]))
  have y62 : ∀ {υ : mSt}, qt (SDy t) ψ υ → υ.1 6 2 = 0 := fun q => (q 6 2 (by simp only [SDy, Sx 6 2 (by omega), Bool.or_false]; rfl)).1.trans g4
  rw [tl_n, bTe_readDays_12 hs ht, show (0 : Int32) = nI 0 from rfl]
  refine Te_days_sq (σ := ψ) (s := s) (t := t) hs ht n8 (fun q => nO (yo q)) 31 0 C (σ.1 (t + 13)) 0 0 0 (fun _ => 0) ψ _ (by omega) g3 ⟨((q2 _ _ (So 12 2)).1).trans e2, ((q2 _ _ (So 12 3)).1).trans e3, ((q2 _ _ (So 12 4)).1).trans e4, (funext fun k => (q2 _ _ (So 13 k)).1).trans e13, fun j hj => absurd hj (by omega), by omega, by omega, by omega⟩ qt_rf (fun C' F' ns r q υ u ep hst q3 g6 D nn rr => ?_) (fun e υ ep q3 g => ?_)
  · obtain ⟨x2, x3, x4, xF, x14, xn, xr, -⟩ := D
    have k0 : kd (σ.1 7) n q = 0 := by
      unfold stpD at hst
      rw [if_pos rfl] at hst
      exact of_decide_eq_true hst
    rw [bTe_readDays_15 hs ht, if_neg (nI_ge (by omega) (by omega)), bTe_readDays_23 hs ht, To_goesOn g6, tl_s, bTe_readDays_30 hs ht, b2i_f (fun g => g k0), if_pos rfl, bTe_readDays_102 hs ht, x2, if_pos (show nI 0 ≤ 0 from Int32.le_refl _), bTe_readDays_116 hs ht, sI_n (Or.inl (by omega)), g6.1, ite_nn rfl, bTe_readDays_131 hs ht, bTe_readDays_136 hs ht (Or.inr rfl)]
    refine h1 C' F' ns r q _ ep (qt_sI (yo q3) (by simp [SDo, SDy, SDt])) ?_ ?_ ?_ ?_ ?_ ?_ sI_e xn (by omega)
    · rw [sI_n (Or.inl (by omega))]; exact y62 q3
    · rw [sI_n (Or.inl (by omega))]; exact g6.1
    · rw [sI_n (Or.inl (by omega))]; exact g6.2.2.2.2.2.2.2
    · rw [sI_1 (by omega)]; exact xF
    · rw [sI_n (Or.inr (by omega))]; exact x3
    · rw [sI_n (Or.inr (by omega))]; exact x4
  · refine h2 e _ ep (qt_sI (yo q3) (by simp [SDo, SDy, SDt])) ?_ ⟨?_, ?_, g.2.2⟩
    · rw [sI_n (Or.inl (by omega))]; exact y62 q3
    · rw [sI_n (Or.inl (by omega))]; exact g.1
    · rw [sI_n (Or.inl (by omega))]; exact g.2.1
def SMx (o k : Nat) : Bool := S66b o k || (o == 171 && decide (2400 ≤ k) && decide (k < 3000))
def MC (τ : mSt) (C : Nat → Int32) : Prop := ∀ j, τ.1 171 (2400 + j) = C j
theorem MC_s {τ : mSt} {C : Nat → Int32} {j : Nat} {v : Int32} (h : MC τ C) : MC (sI τ 171 (2400 + j) v) (upd C j v) := fun i => by
  by_cases e : i = j
  · subst e; rw [sI_e, upd_e]
  · rw [sI_n (Or.inr (by omega)), upd_n e]; exact h i
theorem MC_q {σ τ : mSt} {C : Nat → Int32} (h : MC σ C) (q : qt S66b σ τ) : MC τ C := fun i => ((q 171 _ rfl).1).trans (h i)
theorem MC_P {σ τ : mSt} {C : Nat → Int32} {j : Nat} {s l p r f : Int32} (h : MC σ C) (q : qt (SPt (2400 + j)) σ τ) (v0 : τ.1 171 (2400 + j) = s) (v1 : τ.1 171 (2400 + j + 1) = l) (v2 : τ.1 171 (2400 + j + 2) = p) (v3 : τ.1 171 (2400 + j + 3) = r) (v4 : τ.1 171 (2400 + j + 4) = f) : MC τ (upd (upd (upd (upd (upd C j s) (j + 1) l) (j + 2) p) (j + 3) r) (j + 4) f) := fun i => by
  by_cases i4 : i = j + 4
  · subst i4; rw [upd_e]; exact v4
  by_cases i3 : i = j + 3
  · subst i3; rw [upd_n i4, upd_e]; exact v3
  by_cases i2 : i = j + 2
  · subst i2; rw [upd_n i4, upd_n i3, upd_e]; exact v2
  by_cases i1 : i = j + 1
  · subst i1; rw [upd_n i4, upd_n i3, upd_n i2, upd_e]; exact v1
  by_cases i0 : i = j
  · subst i0; rw [upd_n i4, upd_n i3, upd_n i2, upd_n i1, upd_e]; exact v0
  rw [upd_n i4, upd_n i3, upd_n i2, upd_n i1, upd_n i0, (q 171 (2400 + i) (by simp only [SPt, S66b, Bool.or_eq_false_iff, Bool.and_eq_false_iff, beq_eq_false_iff_ne, decide_eq_false_iff_not, ne_eq]; omega)).1]
  exact h i
theorem qt_X {σ τ : mSt} (h : qt S66b σ τ) : qt SMx σ τ := qt_mono h (fun _ _ e => by simp only [SMx, e, Bool.true_or])
theorem qt_Xs {σ τ : mSt} {j : Nat} {v : Int32} (h : qt SMx σ τ) (hj : j < 600) : qt SMx σ (sI τ 171 (2400 + j) v) := qt_sI h (by
  unfold SMx
  rw [Bool.or_eq_true]
  refine Or.inr ?_
  rw [Bool.and_eq_true, Bool.and_eq_true]
  exact ⟨⟨rfl, decide_eq_true (by omega)⟩, decide_eq_true (by omega)⟩)
theorem qt_PX {j : Nat} {σ τ : mSt} (hj : j + 5 ≤ 600) (h : qt (SPt (2400 + j)) σ τ) : qt SMx σ τ := qt_mono h (fun o k g => by
  simp only [SPt, Bool.or_eq_true, Bool.and_eq_true, decide_eq_true_eq, beq_iff_eq] at g
  rcases g with g | g
  · simp only [SMx, g, Bool.true_or]
  · simp only [SMx, Bool.or_eq_true, Bool.and_eq_true, decide_eq_true_eq, beq_iff_eq]; right; omega)
theorem BOk_X {np no nl : Nat} {w : Nat → Int64} {σ τ : mSt} (h : BOk σ 0 w np no nl) (q : qt SMx σ τ) : BOk τ 0 w np no nl :=
  BOk_q h q (fun k hk => by simp only [SMx, S66b, Bool.or_eq_false_iff, Bool.and_eq_false_iff, beq_eq_false_iff_ne, decide_eq_false_iff_not, ne_eq]; omega) (fun k hk => by simp only [SMx, S66b, Bool.or_eq_false_iff, Bool.and_eq_false_iff, beq_eq_false_iff_ne, decide_eq_false_iff_not, ne_eq]; omega)
theorem kd_3 {T : Nat → Int32} {n q : Nat} (h : kd T n q = 3) : cS (T (pl T n q)) = true := by
  unfold kd at h
  split at h
  · omega
  · split at h
    · omega
    · split at h
      · split at h <;> omega
      · split at h
        · assumption
        · omega
theorem pCmp_k {T : Nat → Int32} {n q : Nat} : (isS T n q 60 = true ∨ isS T n q 62 = true ∨ isS T n q 61 = true) ↔ (kd T n q = 3 ∧ ¬ T (pl T n q) = nI 59) := by
  constructor
  · intro h
    simp only [isS, Bool.and_eq_true, decide_eq_true_eq] at h
    rcases h with h | h | h <;> exact ⟨h.1, by rw [h.2]; decide⟩
  · intro h
    have c := kd_3 h.1
    simp only [cS, Bool.or_eq_true, decide_eq_true_eq] at c
    simp only [isS, Bool.and_eq_true, decide_eq_true_eq]
    rcases c with ((c | c) | c) | c
    · exact absurd c h.2
    · exact Or.inl ⟨h.1, c⟩
    · exact Or.inr (Or.inl ⟨h.1, c⟩)
    · exact Or.inr (Or.inr ⟨h.1, c⟩)
section MTs
variable {E : mEn} {d : Nat} {Q : mPost} {τ : mSt} {T : Nat → Int32} {n q b a : Nat} {C : Nat → Int32} {s : Int32} {e : Nat × Nat}
/-- behind a test's name: the sign and the number -/
theorem mT138_b (hb : b + 8 < 600) (h : MBad τ e) (hQ : ∀ υ, qt SMx τ υ → MBad υ e → Q none υ) : WP E (d + 7) mMo_readTest 138 [.ref 166, .int (nI (2400 + b)), .int (nI a)] [] τ Q := by
  rw [bMo_readTest_138, nI_add, show 2400 + b + 2 = 2400 + (b + 2) by omega]
  have fin : ∀ x : Int32, WP E (d + 7) mMo_readTest 159 [.ref 166, .int (nI (2400 + b)), .int (nI a)] [.int x, .int 0, .ref 166, .int (nI (2400 + (b + 2))), .ref 171] τ Q := fun x => by
    rw [bMo_readTest_159, Mo_count_b h, tl_s, bMo_readTest_162, mOut_f (by omega) (by omega), if_neg (by decide), nI_clamp (by omega)]
    exact hQ _ (qt_Xs qt_rf (by omega)) (MBad_s h)
  split
  · rw [bMo_readTest_156]; exact fin _
  · rw [bMo_readTest_151]; exact fin _
theorem mT77 (hb : b + 8 < 600) (ha : a ≤ 1) (h : MOk τ T n q) (hM : MC τ C)
    (h1 : ∀ x q2 v q3, pCmp T n q = .ok (x, q2) → pNum T n 0 (if a = 0 then 99 else 999) q2 = .ok (v, q3) → ∀ υ, qt SMx τ υ → MOk υ T n q3 → MC υ (upd (upd C (b + 7) x) (b + 2) (nI v)) → Q none υ)
    (h2 : ∀ e, (pCmp T n q = .error e ∨ ∃ x q2, pCmp T n q = .ok (x, q2) ∧ pNum T n 0 (if a = 0 then 99 else 999) q2 = .error e) → ∀ υ, qt SMx τ υ → MBad υ e → Q none υ) : WP E (d + 7) mMo_readTest 77 [.ref 166, .int (nI (2400 + b)), .int (nI a)] [] τ Q := by
  have k4 := kd_le (T := T) (n := n) (q := q)
  have R : ∀ x : Int32, (kd T n q = 3 → x = T (pl T n q)) → WP E (d + 7) mMo_readTest 101 [.ref 166, .int (nI (2400 + b)), .int (nI a)] [.int x, .int (nI (2400 + (b + 7))), .ref 171] τ Q := fun x ex => by
    rw [bMo_readTest_101, mOut_f (by omega) (by omega), if_neg (by decide), nI_clamp (by omega)]
    have g := MOk_s (j := 2400 + (b + 7)) (v := x) h
    have m := MC_s (j := b + 7) (v := x) hM
    have t := qt_Xs (j := b + 7) (v := x) (qt_rf : qt SMx τ τ) (by omega)
    generalize sI τ 171 (2400 + (b + 7)) x = φ at *
    have F : ¬ (kd T n q = 3 ∧ ¬ T (pl T n q) = nI 59) → WP E (d + 7) mMo_readTest 135 [.ref 166, .int (nI (2400 + b)), .int (nI a)] [.int 0, .ref 166] φ Q := fun z => by
      rw [bMo_readTest_135]
      refine Mo_must_f g (fun υ s1 g1 => ?_)
      rw [tl_n]
      refine mT138_b hb g1 (fun ω r1 r2 => h2 _ (Or.inl ?_) ω (qt_tr (qt_tr t (qt_X s1)) r1) r2)
      unfold pCmp
      by_cases y : kd T n q = 3
      · rw [if_pos y, if_pos (by
          by_cases w : T (pl T n q) = nI 59
          · exact w
          · exact absurd ⟨y, w⟩ z)]
      · rw [if_neg y]
    have G : (kd T n q = 3 ∧ ¬ T (pl T n q) = nI 59) → WP E (d + 7) mMo_readTest 130 [.ref 166, .int (nI (2400 + b)), .int (nI a)] [.ref 166] φ Q := fun z => by
      have ec : pCmp T n q = .ok (x, bh T n q) := by unfold pCmp; rw [if_pos z.1, if_neg z.2, ex z.1]
      rw [bMo_readTest_130, bMo_readTest_135]
      refine Mo_must_t g (fun υ s1 g1 => ?_)
      rw [tl_n, bMo_readTest_138, nI_add, show 2400 + b + 2 = 2400 + (b + 2) by omega]
      have fin : ∀ hi, hi < 2 ^ 31 → (if a = 0 then 99 else 999) = hi → WP E (d + 7) mMo_readTest 159 [.ref 166, .int (nI (2400 + b)), .int (nI a)] [.int (nI hi), .int 0, .ref 166, .int (nI (2400 + (b + 2))), .ref 171] υ Q := fun hi hh eh => by
        rw [eh] at h1 h2
        rw [bMo_readTest_159, show (0 : Int32) = nI 0 from rfl]
        refine Mo_count g1 (by omega) hh (fun v q3 e3 ω s2 g2 => ?_) (fun e ee ω s2 g2 => ?_)
        · rw [tl_s, bMo_readTest_162, mOut_f (by omega) (by omega), if_neg (by decide), nI_clamp (by omega)]
          exact h1 x _ v q3 ec e3 _ (qt_Xs (qt_tr t (qt_X (qt_tr s1 s2))) (by omega)) (MOk_s g2) (MC_s (MC_q m (qt_tr s1 s2)))
        · rw [tl_s, bMo_readTest_162, mOut_f (by omega) (by omega), if_neg (by decide), nI_clamp (by omega)]
          exact h2 e (Or.inr ⟨x, _, ec, ee⟩) _ (qt_Xs (qt_tr t (qt_X (qt_tr s1 s2))) (by omega)) (MBad_s g2)
      by_cases a0 : a = 0
      · rw [ite_nn (by rw [a0]; rfl), bMo_readTest_151]
        exact fin 99 (by omega) (if_pos a0)
      · rw [if_pos (show ¬ nI a = 0 from fun y => a0 ((nI_eq (b := 0) (by omega) (by omega)).mp y)), bMo_readTest_156]
        exact fin 999 (by omega) (if_neg a0)
    rw [Mo_isSign g, tl_s, bMo_readTest_109]
    by_cases y1 : isS T n q 60 = true
    · rw [b2i_t y1, if_pos i10]
      exact G (pCmp_k.mp (Or.inl y1))
    rw [b2i_f y1, ite_nn rfl, bMo_readTest_112, Mo_isSign g, tl_s, bMo_readTest_118]
    by_cases y2 : isS T n q 62 = true
    · rw [b2i_t y2, if_pos i10]
      exact G (pCmp_k.mp (Or.inr (Or.inl y2)))
    rw [b2i_f y2, ite_nn rfl, bMo_readTest_121, Mo_isSign g, tl_s, bMo_readTest_127]
    by_cases y3 : isS T n q 61 = true
    · rw [b2i_t y3, if_neg i10]
      exact G (pCmp_k.mp (Or.inr (Or.inr y3)))
    rw [b2i_f y3, if_pos rfl, bMo_readTest_134]
    exact F (fun z => by
      rcases pCmp_k.mpr z with y | y | y
      · exact y1 y
      · exact y2 y
      · exact y3 y)
  rw [bMo_readTest_77, h.2.1.1, nI_add, show 2400 + b + 7 = 2400 + (b + 7) by omega]
  by_cases y : kd T n q = 3
  · rw [ite_nn (by rw [y]), bMo_readTest_93, h.2.1.2.2.2.2.1 y]
    exact R _ (fun _ => rfl)
  · rw [if_pos (fun g => y ((nI_eq (by omega) (by omega)).mp g)), bMo_readTest_100]
    exact R _ (fun g => absurd g y)
end MTs
theorem Mo_readTest {E : mEn} {d : Nat} {Q : mPost} {τ : mSt} {T : Nat → Int32} {n q np no nl b : Nat} {w : Nat → Int64} {C : Nat → Int32} {u : Value} (hb : b + 8 < 600) (h : MOk τ T n q) (hB : BOk τ 0 w np no nl) (hM : MC τ C)
    (h1 : ∀ g C' q', pTst T n w np no nl b C q = .ok (g, C', q') → ∀ υ, qt SMx τ υ → MOk υ T n q' → MC υ C' → Q none υ)
    (h2 : ∀ e, pTst T n w np no nl b C q = .error e → ∀ υ, qt SMx τ υ → MBad υ e → Q none υ) : WP E (d + 7) mMo_readTest 0 [.ref 166, .int (nI (2400 + b)), u] [] τ Q := by
  unfold pTst at h1 h2
  have ew : tWd T n q = if isW T n q 21 = true then nI 0 else if isW T n q 22 = true then nI 1 else if isW T n q 23 = true then nI 2 else if isW T n q 24 = true then nI 3 else -1 := rfl
  rw [bMo_readTest_0, Mo_testWord h, tl_s, bMo_readTest_4]
  by_cases y21 : isW T n q 21 = true
  · rw [if_pos y21] at ew h1 h2
    rw [ew, if_neg (by decide), bMo_readTest_10, bMo_readTest_15]
    refine Mo_must_t h (fun φ s1 g1 => ?_)
    rw [tl_n, bMo_readTest_18, nI_add, show 2400 + b + 6 = 2400 + (b + 6) by omega, mOut_f (by omega) (by omega), if_neg (by decide), nI_clamp (by omega), if_pos (by decide), bMo_readTest_64, (MOk_s g1).1, if_neg (by decide), bMo_readTest_71, if_pos (by decide)]
    have t := qt_Xs (j := b + 6) (v := nI 0) (qt_X s1) (by omega)
    refine mT77 (a := 0) hb (by omega) (MOk_s g1) (MC_s (MC_q hM s1)) (fun x q2 v q3 e1 e2 υ r1 r2 r3 => ?_) (fun e ee υ r1 r2 => ?_)
    · rw [if_pos rfl] at e2
      exact h1 (g5 (nI 21) 0 x (nI v) 0) _ q3 (by simp only [e1, e2]) υ (qt_tr t r1) r2 r3
    · refine h2 e ?_ υ (qt_tr t r1) r2
      rcases ee with ee | ⟨x, q2, e1, ee⟩
      · simp only [ee]
      · rw [if_pos rfl] at ee
        simp only [e1, ee]
  rw [if_neg y21] at ew h1 h2
  by_cases y22 : isW T n q 22 = true
  · rw [if_pos y22] at ew h1 h2
    rw [ew, if_neg (by decide), bMo_readTest_10, bMo_readTest_15]
    refine Mo_must_t h (fun φ s1 g1 => ?_)
    rw [tl_n, bMo_readTest_18, nI_add, show 2400 + b + 6 = 2400 + (b + 6) by omega, mOut_f (by omega) (by omega), if_neg (by decide), nI_clamp (by omega), if_neg (by decide), bMo_readTest_32, ite_nn (by rfl), bMo_readTest_46, bMo_readTest_60, nI_1, show 2400 + b + 1 = 2400 + (b + 1) by omega]
    have t := qt_Xs (j := b + 6) (v := nI 1) (qt_X s1) (by omega)
    have g2 := MOk_s (j := 2400 + (b + 6)) (v := nI 1) g1
    have m2 := MC_s (j := b + 6) (v := nI 1) (MC_q hM s1)
    generalize sI φ 171 (2400 + (b + 6)) (nI 1) = φ2 at *
    refine Mo_readTold (a := 0) (b := 0) (by omega) g2 (BOk_X hB t) (fun p q1 e1 lp φ3 s3 g3 => ?_) (fun e ee υ s3 g3 => ?_)
    rotate_left
    · rw [tl_s, bMo_readTest_63, mOut_f (by omega) (by omega), if_neg (by decide), nI_clamp (by omega), bMo_readTest_64, if_pos (Int32.not_le.mp (MBad_n (MBad_s g3)).2), bMo_readTest_76]
      refine h2 e ?_ _ (qt_Xs (qt_tr t (qt_X s3)) (by omega)) (MBad_s g3)
      rw [show pName T n w 0 np (-1) (bh T n q) = .error e from ee]
    rw [show pName T n w 0 np (-1) (bh T n q) = .ok (p, q1) from e1] at h1 h2
    dsimp only at h1 h2
    rw [tl_s, bMo_readTest_63, mOut_f (by omega) (by omega), if_neg (by decide), nI_clamp (by omega), bMo_readTest_64, (MOk_s g3).1, if_neg (by decide), bMo_readTest_71, if_pos (by decide)]
    have t3 := qt_Xs (j := b + 1) (v := nI p) (qt_tr t (qt_X s3)) (by omega)
    refine mT77 (a := 1) hb (by omega) (MOk_s g3) (MC_s (MC_q m2 s3)) (fun x q2 v q3 e1 e2 υ r1 r2 r3 => ?_) (fun e ee υ r1 r2 => ?_)
    · rw [if_neg (by decide)] at e2
      exact h1 (g5 (nI 22) (nI p) x (nI v) 0) _ q3 (by simp only [e1, e2]) υ (qt_tr t3 r1) r2 r3
    · refine h2 e ?_ υ (qt_tr t3 r1) r2
      rcases ee with ee | ⟨x, q2, e1, ee⟩
      · simp only [ee]
      · rw [if_neg (by decide)] at ee
        simp only [e1, ee]
  rw [if_neg y22] at ew h1 h2
  by_cases y23 : isW T n q 23 = true
  · rw [if_pos y23] at ew h1 h2
    rw [ew, if_neg (by decide), bMo_readTest_10, bMo_readTest_15]
    refine Mo_must_t h (fun φ s1 g1 => ?_)
    rw [tl_n, bMo_readTest_18, nI_add, show 2400 + b + 6 = 2400 + (b + 6) by omega, mOut_f (by omega) (by omega), if_neg (by decide), nI_clamp (by omega), if_neg (by decide), bMo_readTest_32, if_pos (by decide), bMo_readTest_50, ite_nn (by rfl), bMo_readTest_55, bMo_readTest_60, nI_1, show 2400 + b + 1 = 2400 + (b + 1) by omega]
    have t := qt_Xs (j := b + 6) (v := nI 2) (qt_X s1) (by omega)
    have g2 := MOk_s (j := 2400 + (b + 6)) (v := nI 2) g1
    have m2 := MC_s (j := b + 6) (v := nI 2) (MC_q hM s1)
    generalize sI φ 171 (2400 + (b + 6)) (nI 2) = φ2 at *
    refine Mo_readTold (a := 2) (b := 0) (by omega) g2 (BOk_X hB t) (fun p q1 e1 lp φ3 s3 g3 => ?_) (fun e ee υ s3 g3 => ?_)
    · rw [show pName T n w 12 nl (-1) (bh T n q) = .ok (p, q1) from e1] at h1
      dsimp only at h1
      rw [tl_s, bMo_readTest_63, mOut_f (by omega) (by omega), if_neg (by decide), nI_clamp (by omega), bMo_readTest_64, (MOk_s g3).1, if_neg (by decide), bMo_readTest_71, if_neg (by decide), bMo_readTest_76]
      exact h1 _ _ q1 rfl _ (qt_Xs (qt_tr t (qt_X s3)) (by omega)) (MOk_s g3) (MC_s (MC_q m2 s3))
    · rw [tl_s, bMo_readTest_63, mOut_f (by omega) (by omega), if_neg (by decide), nI_clamp (by omega), bMo_readTest_64, if_pos (Int32.not_le.mp (MBad_n (MBad_s g3)).2), bMo_readTest_76]
      refine h2 e ?_ _ (qt_Xs (qt_tr t (qt_X s3)) (by omega)) (MBad_s g3)
      rw [show pName T n w 12 nl (-1) (bh T n q) = .error e from ee]
  rw [if_neg y23] at ew h1 h2
  by_cases y24 : isW T n q 24 = true
  · rw [if_pos y24] at ew h1 h2
    rw [ew, if_neg (by decide), bMo_readTest_10, bMo_readTest_15]
    refine Mo_must_t h (fun φ s1 g1 => ?_)
    rw [tl_n, bMo_readTest_18, nI_add, show 2400 + b + 6 = 2400 + (b + 6) by omega, mOut_f (by omega) (by omega), if_neg (by decide), nI_clamp (by omega), if_neg (by decide), bMo_readTest_32, if_pos (by decide), bMo_readTest_50, if_pos (by decide), bMo_readTest_59, bMo_readTest_60, nI_1, show 2400 + b + 1 = 2400 + (b + 1) by omega]
    have t := qt_Xs (j := b + 6) (v := nI 3) (qt_X s1) (by omega)
    have g2 := MOk_s (j := 2400 + (b + 6)) (v := nI 3) g1
    have m2 := MC_s (j := b + 6) (v := nI 3) (MC_q hM s1)
    generalize sI φ 171 (2400 + (b + 6)) (nI 3) = φ2 at *
    refine Mo_readTold (a := 1) (b := 0) (by omega) g2 (BOk_X hB t) (fun p q1 e1 lp φ3 s3 g3 => ?_) (fun e ee υ s3 g3 => ?_)
    · rw [show pName T n w 8 no (-1) (bh T n q) = .ok (p, q1) from e1] at h1
      dsimp only at h1
      rw [tl_s, bMo_readTest_63, mOut_f (by omega) (by omega), if_neg (by decide), nI_clamp (by omega), bMo_readTest_64, (MOk_s g3).1, if_neg (by decide), bMo_readTest_71, if_neg (by decide), bMo_readTest_76]
      exact h1 _ _ q1 rfl _ (qt_Xs (qt_tr t (qt_X s3)) (by omega)) (MOk_s g3) (MC_s (MC_q m2 s3))
    · rw [tl_s, bMo_readTest_63, mOut_f (by omega) (by omega), if_neg (by decide), nI_clamp (by omega), bMo_readTest_64, if_pos (Int32.not_le.mp (MBad_n (MBad_s g3)).2), bMo_readTest_76]
      refine h2 e ?_ _ (qt_Xs (qt_tr t (qt_X s3)) (by omega)) (MBad_s g3)
      rw [show pName T n w 8 no (-1) (bh T n q) = .error e from ee]
  rw [if_neg y24] at ew h1 h2
  rw [ew, if_pos (by decide), bMo_readTest_14, bMo_readTest_15]
  refine Mo_must_f h (fun φ s1 g1 => ?_)
  rw [tl_n, bMo_readTest_18, nI_add, show 2400 + b + 6 = 2400 + (b + 6) by omega, mOut_f (by omega) (by omega), if_neg (by decide), nI_clamp (by omega), if_pos (by decide), bMo_readTest_64, if_pos (Int32.not_le.mp (MBad_n (MBad_s g1)).2), bMo_readTest_76]
  exact h2 _ rfl _ (qt_Xs (qt_X s1) (by omega)) (MBad_s g1)
