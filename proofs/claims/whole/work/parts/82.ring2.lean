/-! ring: the rest -/
def S72 (o k : Nat) : Bool := o == 72
theorem Ne_found {E : mEn} {d : Nat} {Q : mPost} {σ : mSt} {t np no nl nk dy home L : Nat} {c : Nat → Int32} {w : Nat → Int64} {a2 : Int32} (ht : isT t) (hT : TRel σ t c w np no nl nk dy) (h : MX σ (DD (rMd c) (rG c) (rT c) nk)) (hh : home < 8) (hL : L ≤ 8) (r : Nat) : ∀ (i x : Nat) (τ : mSt), i + r + 1 = L → x < nk → DD (rMd c) (rG c) (rT c) nk (rT c x) home = r → qt S72 σ τ → (∀ υ, qt S72 σ υ → (∀ j, j < i → υ.1 72 j = τ.1 72 j) → υ.1 72 i = nI x → (∀ j y, (gd (rMd c) (rG c) (rT c) nk home r (rT c x))[j]? = some y → υ.1 72 (i + 1 + j) = nI y) → Q (some (.int (nI L))) (sI υ 68 4 (nI L))) → WP E (d + 3) mNe_findRing 113 [.ref 68, .ref (t + 3), .int a2, .int (nI L), .int (nI home), .int (nI x), .int (nI i)] [] τ Q := by
  have tb := isT_lt ht
  have b4 := hT.1.2.2.2.1
  have b1 := hT.1.1
  have pre : ∀ (r i x : Nat) (τ : mSt), i + r + 1 = L → x < nk → qt S72 σ τ → WP E (d + 3) mNe_findRing 113 [.ref 68, .ref (t + 3), .int a2, .int (nI L), .int (nI home), .int (nI x), .int (nI i)] [] τ Q = WP E (d + 3) mNe_findRing 113 [.ref 68, .ref (t + 3), .int a2, .int (nI L), .int (nI home), .int (nwI c (DD (rMd c) (rG c) (rT c) nk) nk home (rT c x) (nI (r + 1) - nI 2) nk 0), .int (nI (i + 1))] [] (sI τ 72 i (nI x)) Q := by
    intro r i x τ e hx q
    have hT' : TRel τ t c w np no nl nk dy := TRel_q q (fun j k hj _ _ => by simp only [S72, beq_eq_false_iff_ne]; omega) hT
    obtain ⟨r1, r2, r3, r4, r5⟩ := rGT hT' hx
    obtain ⟨-, -, ⟨p3, -⟩, ⟨p4, -⟩, -, ⟨p6, -⟩, -⟩ := hT'.2.2.2.2.2.2.2.2.2.2.2.1 x hx
    have q' : qt S72 σ (sI τ 72 i (nI x)) := qt_sI q rfl
    have hT2 : TRel (sI τ 72 i (nI x)) t c w np no nl nk dy := TRel_q q' (fun j k hj _ _ => by simp only [S72, beq_eq_false_iff_ne]; omega) hT
    have h2 : MX (sI τ 72 i (nI x)) (DD (rMd c) (rG c) (rT c) nk) := fun u v hu hv => ((q' 71 _ rfl).1).trans (h u v hu hv)
    have e2 : nI L - nI i - nI 2 = nI (r + 1) - nI 2 := by rw [pk_sub (by omega), show L - i = r + 1 by omega]
    rw [bNe_findRing_113 ht, if_neg (nI_ge (by omega) (by omega)), bNe_findRing_119 ht, if_neg (nI_m1 (by omega)), bNe_findRing_125 ht, mOut_f (by omega) (by omega), mOut_f (by omega) (by omega), nI_clamp (by omega), nI_clamp (by omega), sI_n (by omega), p4, r2, e2, if_neg (by decide), if_neg (by decide), bNe_nextOnWay_0 ht, show (0 : Int32) = nI 0 from rfl, Ne_next_loop ht hT2 h2 hh (show rT c x < 8 by omega) nk 0 (by omega), tl_s, bNe_findRing_154 ht, nI_1]
  induction r with
  | zero =>
    intro i x τ e hx hr q hQ
    rw [pre 0 i x τ e hx q, bNe_findRing_113 ht, if_pos (nI_le (by omega) (by omega)), bNe_findRing_162 ht]
    refine hQ _ (qt_sI q rfl) (fun j hj => by rw [sI_n (Or.inr (by omega))]) (by rw [sI_e]) (fun j y hy => ?_)
    rw [gd] at hy; cases hy
  | succ r IH =>
    intro i x τ e hx
    have hne : ∀ k, k < nk → rG c k ≠ rT c k := fun k hk => (rGT hT hk).2.2.2.2
    have htt : ∀ k, k < nk → rT c k < 8 := fun k hk => by have := (rGT hT hk).2.2.2.1; omega
    have hr2 : r + 1 < 1000 := by omega
    have hr3 : r < 2 ^ 31 := by omega
    have hr4 : i + 1 + r + 1 = L := by omega
    have e3 : nI (r + 1 + 1) - nI 2 = nI r := by rw [pk_sub (by omega)]; rfl
    intro hr q hQ
    obtain ⟨n1, n2, n3, n4⟩ := nw_s (md := rMd c) hne htt hr hr2
    have n1' : fN (fun k => rMd c k && decide (rG c k = rT c x) && decide (DD (rMd c) (rG c) (rT c) nk (rT c k) home = r)) nk 0 < 0 + nk := by rw [Nat.zero_add]; exact n1
    have en := nwI_fN (c := c) (M := DD (rMd c) (rG c) (rT c) nk) (nk := nk) (home := home) (a := rT c x) (r := r) (fun u v => DD_b) hr3 nk 0 n1'
    clear hr n1'
    rw [pre (r + 1) i x τ e hx q, e3, en]
    refine IH (i + 1) (nw (rMd c) (rG c) (rT c) nk home (rT c x) r) (sI τ 72 i (nI x)) hr4 n1 n4 (qt_sI q rfl) (fun υ p1 p2 p3 p4 => hQ υ p1 (fun j hj => ?_) ?_ (fun j y hy => ?_))
    all_goals clear n4
    · rw [p2 j (by omega), sI_n (Or.inr (by omega))]
    · rw [p2 i (by omega), sI_e]
    · rw [gd] at hy
      cases j with
      | zero =>
        injection hy with hy
        rw [← hy]
        exact p3
      | succ j =>
        have := p4 j y hy
        rw [show i + 1 + (j + 1) = i + 1 + 1 + j by omega]
        exact this
/-- what findRing leaves -/
theorem Ne_findRing {E : mEn} {d : Nat} {Q : mPost} {σ : mSt} {t np no nl nk dy : Nat} {c : Nat → Int32} {w : Nat → Int64} {u2 u3 u4 u5 u6 : Value} (ht : isT t) (hT : TRel σ t c w np no nl nk dy)
    (h0 : (∀ k, k < nk → rMd c k = true → 8 < 1 + DD (rMd c) (rG c) (rT c) nk (rT c k) (rG c k)) → ∀ υ, qt S71 σ υ → Q (some (.int (-1))) υ)
    (h1 : ∀ s L, s < nk → rMd c s = true → L = 1 + DD (rMd c) (rG c) (rT c) nk (rT c s) (rG c s) → L ≤ 8 → (∀ k, k < nk → rMd c k = true → L ≤ 1 + DD (rMd c) (rG c) (rT c) nk (rT c k) (rG c k)) → (∀ k, k < s → k < nk → rMd c k = true → L < 1 + DD (rMd c) (rG c) (rT c) nk (rT c k) (rG c k)) → ∀ υ, qt (fun o k => S71 o k || S72 o k) σ υ → (∀ j y, (s :: gd (rMd c) (rG c) (rT c) nk (rG c s) (L - 1) (rT c s))[j]? = some y → υ.1 72 j = nI y) → Q (some (.int (nI L))) (sI υ 68 4 (nI L))) : WP E (d + 3) mNe_findRing 0 [.ref 68, .ref (t + 3), u2, u3, u4, u5, u6] [] σ Q := by
  rw [bNe_findRing_0 ht]
  refine Ne_measure ht hT (fun υ q g => ?_)
  have hT' := TRel_q q (fun j k hj _ _ => S71_T ht hj) hT
  have tb := isT_lt ht
  rw [tl_n, bNe_findRing_5 ht]
  refine Eq.mpr (Ne_scan (s := (-1, 1000)) ht hT' g (fun u v => DD_b) nk 0 (by omega) (by show 1000 ≤ 1001; omega)) ?_
  have RI := rsF_I (md := rMd c) (g := rG c) (t := rT c) (D := DD (rMd c) (rG c) (rT c) nk) nk 0 (-1, 1000) (Or.inl ⟨rfl, rfl, fun x hx => absurd hx (by omega)⟩)
  rw [Nat.zero_add] at RI
  generalize rsF (rMd c) (rG c) (rT c) (DD (rMd c) (rG c) (rT c) nk) nk 0 (-1, 1000) = s at RI ⊢
  rw [bNe_findRing_86 ht]
  rcases RI with ⟨r1, r2, r3⟩ | ⟨i, r1, r2, r3, r4, r5, r6, r7⟩
  · rw [if_pos r1, bNe_findRing_97 ht]
    exact h0 (fun k hk hm => by have := r3 k hk hm; omega) υ q
  have b4 := hT.1.2.2.2.1
  have b1 := hT.1.1
  rw [r2, if_neg (nI_m1 (by omega)), bNe_findRing_91 ht]
  by_cases z : s.2 ≤ 8
  rotate_left
  · rw [if_neg (nI_ge (by omega) (by omega)), bNe_findRing_97 ht]
    exact h0 (fun k hk hm => by have := r6 k hk hm; omega) υ q
  obtain ⟨g1, g2, g3, g4, g5⟩ := rGT hT' r1
  obtain ⟨-, -, ⟨p3, -⟩, -⟩ := hT'.2.2.2.2.2.2.2.2.2.2.2.1 i r1
  rw [if_pos (nI_le z (by omega)), bNe_findRing_99 ht, mOut_f (by omega) (by omega), nI_clamp (by omega), p3, g1, if_neg (by decide)]
  refine Ne_found ht hT' g (show rG c i < 8 by omega) z (s.2 - 1) 0 i υ (by omega) r1 (by omega) qt_rf (fun φ k1 k2 k3 k4 => ?_)
  refine h1 i s.2 r1 r3 r4 z r6 (fun k hk _ hm => r7 k hk hm) φ (qt_tr (qt_mono q (fun o k h => by simp only [h, Bool.true_or])) (qt_mono k1 (fun o k h => by simp only [h, Bool.or_true]))) (fun j y hy => ?_)
  cases j with
  | zero => injection hy with hy; rw [← hy]; exact k3
  | succ j =>
    have := k4 j y hy
    rw [show 0 + 1 + j = j + 1 by omega] at this
    exact this
def S179 (o k : Nat) : Bool := o == 179
theorem Mo_goes {E : mEn} {σ0 : mSt} {t np no nl nk dy k0 many : Nat} {c : Nat → Int32} {w : Nat → Int64} (hT : TRel σ0 t c w np no nl nk dy) (hk0 : k0 < nk) (hm : many ≤ 8) (r : Nat) : ∀ (D a seen dp kp : Nat) (σ : mSt) (Q : mPost) (u4 u5 u6 : Value), r + 2 ≤ D → dp + r = many → 1 ≤ dp → σ.1 171 = c → σ.1 179 0 = nI k0 → σ.1 179 (dp - 1) = nI kp → kp < nk → rT c kp = a → seen < 256 →
    (∀ l τ, gr (rMd c) (rG c) (rT c) nk k0 (rG c k0) r a seen = some l → qt S179 σ τ → (∀ i, i < dp → τ.1 179 i = σ.1 179 i) → (∀ j y, l[j]? = some y → τ.1 179 (dp + j) = nI y) → Q (some (.int 1)) τ) →
    (∀ τ, gr (rMd c) (rG c) (rT c) nk k0 (rG c k0) r a seen = none → qt S179 σ τ → (∀ i, i < dp → τ.1 179 i = σ.1 179 i) → Q (some (.int 0)) τ) → WP E D mMo_goesRound 0 [.ref 166, .int (nI dp), .int (nI many), .int (nI seen), u4, u5, u6] [] σ Q := by
  obtain ⟨⟨b1, b2, b3, b4, b5⟩, ⟨t1, c1⟩, ⟨t2, c2⟩, ⟨t3, c3⟩, ⟨t4, c4⟩, ⟨t5, c5⟩, c6, gP, gO, gL, gB, gK, -⟩ := id hT
  obtain ⟨z1, z2, z3, z4, z5⟩ := rGT hT hk0
  have pre : ∀ (d a seen dp kp : Nat) (σ : mSt) (Q : mPost) (u4 u5 u6 : Value), 1 ≤ dp → dp ≤ 8 → σ.1 171 = c → σ.1 179 0 = nI k0 → σ.1 179 (dp - 1) = nI kp → kp < nk → rT c kp = a → WP E (d + 2) mMo_goesRound 0 [.ref 166, .int (nI dp), .int (nI many), .int (nI seen), u4, u5, u6] [] σ Q = if ¬ nI dp = nI many then WP E (d + 2) mMo_goesRound 56 [.ref 166, .int (nI dp), .int (nI many), .int (nI seen), .int (nI (rG c k0)), .int (nI a), u6] [] σ Q else WP E (d + 2) mMo_goesRound 43 [.ref 166, .int (nI dp), .int (nI many), .int (nI seen), .int (nI (rG c k0)), .int (nI a), u6] [] σ Q := by
    intro d a seen dp kp σ Q u4 u5 u6 h1 h8 hc h0 hp hkp ha
    obtain ⟨y1, y2, y3, y4, y5⟩ := rGT hT hkp
    have e1 : nI dp - 1 = nI (dp - 1) := by
      obtain ⟨m, rfl⟩ : ∃ m, dp = m + 1 := ⟨dp - 1, by omega⟩
      rw [nI_pred]; rfl
    rw [bMo_goesRound_0, if_neg (by decide), h0, Mo_part, tl_s, bMo_goesRound_13, nI_add, e1, mOut_f (by omega) (by omega), mOut_f (by omega) (by omega), nI_clamp (by omega), nI_clamp (by omega), hc, z1, hp, if_neg (by decide), if_neg (by decide), Mo_part, tl_s, bMo_goesRound_33, nI_add, mOut_f (by omega) (by omega), nI_clamp (by omega), hc, y2, ha, if_neg (by decide)]
  induction r with
  | zero =>
    intro D a seen dp kp σ Q u4 u5 u6 hD e h1 hc h0 hp hkp ha hs hS hN
    obtain ⟨d, rfl⟩ : ∃ d, D = d + 2 := ⟨D - 2, by omega⟩
    obtain ⟨y1, y2, y3, y4, y5⟩ := rGT hT hkp
    rw [pre d a seen dp kp σ Q u4 u5 u6 h1 (by omega) hc h0 hp hkp ha, ite_nn (by rw [show dp = many by omega]), bMo_goesRound_43]
    by_cases z : a = rG c k0
    · rw [ite_nn (by rw [z]), bMo_goesRound_50, bMo_goesRound_55 (Or.inr rfl)]
      exact hS [] σ (by rw [gr, if_pos z]) qt_rf (fun _ _ => rfl) (fun j y hy => by cases hy)
    · rw [if_pos (fun q => z ((nI_eq (by omega) (by omega)).mp q)), bMo_goesRound_54, bMo_goesRound_55 (Or.inl rfl)]
      exact hN σ (by rw [gr, if_neg z]) qt_rf (fun _ _ => rfl)
  | succ r IH =>
    intro D a seen dp kp σ Q u4 u5 u6 hD e h1 hc h0 hp hkp ha hs hS hN
    obtain ⟨d, rfl⟩ : ∃ d, D = d + r + 1 + 2 := ⟨D - (r + 1 + 2), by omega⟩
    obtain ⟨y1, y2, y3, y4, y5⟩ := rGT hT hkp
    have ha8 : a < 8 := by omega
    rw [pre (d + r + 1) a seen dp kp σ Q u4 u5 u6 h1 (by omega) hc h0 hp hkp ha, if_pos (fun q => by have := (nI_eq (by omega) (by omega)).mp q; omega), bMo_goesRound_56, Mo_has, tl_s, bMo_goesRound_62]
    by_cases z : Nat.testBit seen a = true
    · rw [b2i_t ((bs1 ha8 hs).mpr z), if_neg i10, bMo_goesRound_65]
      exact hN σ (by rw [gr, if_pos z]) qt_rf (fun _ _ => rfl)
    rw [b2i_f (fun q => z ((bs1 ha8 hs).mp q)), if_pos rfl, bMo_goesRound_67, if_neg (by decide), h0, nI_1]
    have s8 : seen ||| 2 ^ a < 256 := Nat.or_lt_two_pow (n := 8) hs (Nat.pow_lt_pow_right (by omega) ha8)
    have LP : ∀ (j k : Nat) (τ : mSt), k + j = nk → qt S179 σ τ → (∀ i, i < dp → τ.1 179 i = σ.1 179 i) →
        (∀ l τ, fsO (fun k => if rMd c k = true ∧ rG c k = a then gr (rMd c) (rG c) (rT c) nk k0 (rG c k0) r (rT c k) (seen ||| 2 ^ a) else none) j k = some l → qt S179 σ τ → (∀ i, i < dp → τ.1 179 i = σ.1 179 i) → (∀ j y, l[j]? = some y → τ.1 179 (dp + j) = nI y) → Q (some (.int 1)) τ) →
        (∀ τ, fsO (fun k => if rMd c k = true ∧ rG c k = a then gr (rMd c) (rG c) (rT c) nk k0 (rG c k0) r (rT c k) (seen ||| 2 ^ a) else none) j k = none → qt S179 σ τ → (∀ i, i < dp → τ.1 179 i = σ.1 179 i) → Q (some (.int 0)) τ) → WP E (d + r + 1 + 2) mMo_goesRound 77 [.ref 166, .int (nI dp), .int (nI many), .int (nI seen), .int (nI (rG c k0)), .int (nI a), .int (nI k)] [] τ Q := by
      intro j
      induction j with
      | zero =>
        intro k τ ek q g hS hN
        have e' : k = nk := by omega
        subst e'
        have hc' : τ.1 171 = c := by rw [← hc]; exact funext fun k => (q 171 k rfl).1
        rw [bMo_goesRound_77, if_neg (by decide), hc', c4, if_pos (Int32.le_refl _), bMo_goesRound_150]
        exact hN τ rfl q g
      | succ j ih =>
        intro k τ ek q g hS hN
        have hc' : τ.1 171 = c := by rw [← hc]; exact funext fun k => (q 171 k rfl).1
        have hk : k < nk := by omega
        obtain ⟨x1, x2, x3, x4, x5⟩ := rGT hT hk
        rw [bMo_goesRound_77, if_neg (by decide), hc', c4, if_neg (nI_ge (by omega) (by omega)), bMo_goesRound_88, Mo_isMade (show k < 40 by omega), tl_s, bMo_goesRound_94, hc']
        rw [fsO] at hS hN
        by_cases m : c (82 + 6 * k + 5) = 0
        rotate_left
        · have mz : ¬ rMd c k = true := by unfold rMd; simp [m]
          rw [if_neg (fun q => mz q.1)] at hS hN
          rw [b2i_f m, if_pos rfl, bMo_goesRound_144, nI_1]
          exact ih (k + 1) τ (by omega) q g hS hN
        have mz : rMd c k = true := by unfold rMd; simp [m]
        rw [b2i_t m, if_neg i10, bMo_goesRound_97, Mo_part, tl_s, bMo_goesRound_106, nI_add, mOut_f (by omega) (by omega), nI_clamp (by omega), hc', x1, if_neg (by decide)]
        by_cases y : rG c k = a
        rotate_left
        · rw [if_neg (fun q => y q.2)] at hS hN
          rw [if_neg (fun q => y ((nI_eq (by omega) (by omega)).mp q)), bMo_goesRound_114, bMo_goesRound_144, nI_1]
          exact ih (k + 1) τ (by omega) q g hS hN
        rw [if_pos ⟨mz, y⟩] at hS hN
        rw [if_pos (by rw [y]), bMo_goesRound_117, mOut_f (by omega) (by omega), nI_clamp (by omega), if_neg (by decide), nI_1, bsO ha8 hs]
        refine IH (d + r + 2) (rT c k) (seen ||| 2 ^ a) (dp + 1) k _ _ _ _ _ (by omega) (by omega) (by omega) (by rw [← hc']; rfl) (by rw [sI_n (Or.inr (by omega)), g 0 (by omega)]; exact h0) (by rw [show dp + 1 - 1 = dp by omega, sI_e]) hk rfl s8 (fun l υ el q2 g2 gl => ?_) (fun υ el q2 g2 => ?_)
        · rw [tl_s, bMo_goesRound_139, if_neg i10, bMo_goesRound_142]
          rw [el] at hS
          refine hS (k :: l) υ rfl (qt_tr (qt_sI q rfl) q2) (fun i hi => ?_) (fun j y hy => ?_)
          · rw [g2 i (by omega), sI_n (Or.inr (by omega)), g i hi]
          · cases j with
            | zero =>
              injection hy with hy
              rw [← hy, Nat.add_zero, g2 dp (by omega), sI_e]
            | succ j =>
              have := gl j y hy
              rw [show dp + (j + 1) = dp + 1 + j by omega]
              exact this
        · rw [tl_s, bMo_goesRound_139, if_pos rfl, bMo_goesRound_144, nI_1]
          rw [el] at hS hN
          exact ih (k + 1) υ (by omega) (qt_tr (qt_sI q rfl) q2) (fun i hi => by rw [g2 i (by omega), sI_n (Or.inr (by omega)), g i hi]) hS hN
    refine LP (nk - (k0 + 1)) (k0 + 1) σ (by omega) qt_rf (fun _ _ => rfl) (fun l τ el => hS l τ ?_) (fun τ el => hN τ ?_)
    · rw [gr, if_neg z]; exact el
    · rw [gr, if_neg z]; exact el
theorem Mo_rg_fail {E : mEn} {d : Nat} {Q : mPost} {σ σ0 : mSt} {t np no nl nk dy m : Nat} {c : Nat → Int32} {w : Nat → Int64} {u3 : Value} (hT : TRel σ0 t c w np no nl nk dy) (hm : m ≤ 8) (h2 : 2 ≤ m) {K : Nat} (hK : K ≤ nk) (hf : ∀ k, k < K → rMd c k = true → gr (rMd c) (rG c) (rT c) nk k (rG c k) (m - 1) (rT c k) (2 ^ rG c k) = none) : ∀ (j k : Nat) (τ : mSt), k + j = K → qt S179 σ τ → τ.1 171 = c → (∀ υ, qt S179 σ υ → υ.1 171 = c → WP E (d + 12) mMo_ring 24 [.ref 166, .int (nI m), .int (nI K), u3] [] υ Q) → WP E (d + 12) mMo_ring 24 [.ref 166, .int (nI m), .int (nI k), u3] [] τ Q := by
  obtain ⟨⟨b1, b2, b3, b4, b5⟩, ⟨t1, c1⟩, ⟨t2, c2⟩, ⟨t3, c3⟩, ⟨t4, c4⟩, ⟨t5, c5⟩, c6, gP, gO, gL, gB, gK, -⟩ := id hT
  intro j
  induction j with
  | zero =>
    intro k τ e q hc hQ
    have e' : k = K := by omega
    subst e'
    exact hQ τ q hc
  | succ j ih =>
    intro k τ e q hc hQ
    have hk : k < nk := by omega
    obtain ⟨x1, x2, x3, x4, x5⟩ := rGT hT hk
    rw [bMo_ring_24, if_neg (by decide), hc, c4, if_neg (nI_ge (by omega) (by omega)), bMo_ring_34, Mo_isMade (show k < 40 by omega), tl_s, bMo_ring_39, hc]
    by_cases z : c (82 + 6 * k + 5) = 0
    rotate_left
    · rw [b2i_f z, ite_nn rfl, bMo_ring_42, bMo_ring_109, nI_1]
      exact ih (k + 1) τ (by omega) q hc hQ
    have mz : rMd c k = true := by unfold rMd; simp [z]
    have p8 : 2 ^ rG c k < 2 ^ 8 := Nat.pow_lt_pow_right (by omega) (by omega)
    rw [b2i_t z, if_pos i10, bMo_ring_45, if_neg (by decide), Mo_part, tl_s, bMo_ring_64, nI_add, mOut_f (by omega) (by omega), nI_clamp (by omega), show (sI τ 179 0 (nI k)).1 171 = c from hc, x1, if_neg (by decide), shl9 (by omega)]
    refine Mo_goes hT hk hm (m - 1) (d + 11) (rT c k) (2 ^ rG c k) 1 k (sI τ 179 0 (nI k)) _ uu uu uu (by omega) (by omega) (Nat.le_refl _) hc sI_e sI_e hk rfl p8 (fun l υ el => ?_) (fun υ _ q2 _ => ?_)
    · rw [hf k (by omega) mz] at el; cases el
    · rw [tl_s, bMo_ring_71, ite_nn rfl, bMo_ring_74, bMo_ring_109, nI_1]
      exact ih (k + 1) υ (by omega) (qt_tr (qt_sI q rfl) q2) (by rw [← hc]; exact funext fun k => (q2 171 k rfl).1) hQ
theorem Mo_rg_copy {E : mEn} {d : Nat} {Q : mPost} {m : Nat} {a2 : Int32} (hm : m ≤ 8) : ∀ (j i : Nat) (τ : mSt), i + j = m → (∀ υ, qt (fun o _ => o == 180) τ υ → (∀ x, x < i → υ.1 180 x = τ.1 180 x) → (∀ x, i ≤ x → x < m → υ.1 180 x = τ.1 179 x) → Q (some (.int (nI m))) υ) → WP E d mMo_ring 84 [.ref 166, .int (nI m), .int a2, .int (nI i)] [] τ Q
  | 0, i, τ, e, hQ => by
    have e' : i = m := by omega
    subst e'
    rw [bMo_ring_84, if_pos (Int32.le_refl _), bMo_ring_107]
    exact hQ τ qt_rf (fun _ _ => rfl) (fun x h1 h2 => absurd h2 (by omega))
  | j + 1, i, τ, e, hQ => by
    rw [bMo_ring_84, if_neg (nI_ge (by omega) (by omega)), bMo_ring_89, mOut_f (by omega) (by omega), nI_clamp (by omega), if_neg (by decide), if_neg (by decide), nI_1]
    refine Mo_rg_copy hm j (i + 1) _ (by omega) (fun υ q g1 g2 => hQ υ (qt_tr (qt_sI qt_rf rfl) q) (fun x hx => ?_) (fun x h1 h2 => ?_))
    · rw [g1 x (by omega), sI_n (Or.inr (by omega))]
    · by_cases ex : x = i
      · subst ex; rw [g1 x (by omega), sI_e]
      · rw [g2 x (by omega) h2, sI_n (Or.inl (by omega))]
theorem Mo_rg_out {E : mEn} {d : Nat} {Q : mPost} {σ σ0 : mSt} {t np no nl nk dy M : Nat} {c : Nat → Int32} {w : Nat → Int64} (hT : TRel σ0 t c w np no nl nk dy) (hM : M ≤ np + 1) (hf : ∀ m k, 2 ≤ m → m < M → k < nk → rMd c k = true → gr (rMd c) (rG c) (rT c) nk k (rG c k) (m - 1) (rT c k) (2 ^ rG c k) = none) : ∀ (j m : Nat) (τ : mSt) (u2 : Value) (u3 : Value), m + j = M → 2 ≤ m → qt S179 σ τ → τ.1 171 = c → (∀ υ u2 u3, qt S179 σ υ → υ.1 171 = c → WP E (d + 12) mMo_ring 12 [.ref 166, .int (nI M), u2, u3] [] υ Q) → WP E (d + 12) mMo_ring 12 [.ref 166, .int (nI m), u2, u3] [] τ Q
  | 0, m, τ, u2, u3, e, h2, q, hc, hQ => by
    have e' : m = M := by omega
    subst e'
    exact hQ τ u2 u3 q hc
  | j + 1, m, τ, u2, u3, e, h2, q, hc, hQ => by
    obtain ⟨⟨b1, b2, b3, b4, b5⟩, ⟨t1, c1⟩, ⟨t2, c2⟩, ⟨t3, c3⟩, ⟨t4, c4⟩, -⟩ := id hT
    rw [bMo_ring_12, if_neg (by decide), hc, c1, if_neg (nI_nlt (by omega) (by omega)), bMo_ring_22]
    refine Mo_rg_fail (σ := σ) hT (by omega) h2 (Nat.le_refl nk) (fun k hk hm => hf m k h2 (by omega) hk hm) nk 0 τ (by omega) q hc (fun υ q2 hc2 => ?_)
    rw [bMo_ring_24, if_neg (by decide), hc2, c4, if_pos (Int32.le_refl _), bMo_ring_115, nI_1]
    exact Mo_rg_out hT hM hf j (m + 1) υ _ _ (by omega) (by omega) q2 hc2 hQ
def SRg (o k : Nat) : Bool := SQ o k || (o == 72 || (o == 68 && k == 4) || o == 180 || (o == 166 && k == 33))
theorem SRg_T {t j k : Nat} (ht : 91 ≤ t ∧ t ≤ 141) (hj : j < 25) (h1 : j ≠ 10) (h2 : j ≠ 11) : SRg (t + j) k = false := by
  simp only [SRg, SQ, Bool.or_eq_false_iff, Bool.and_eq_false_iff, beq_eq_false_iff_ne, decide_eq_false_iff_not, ne_eq]
  omega
theorem Inv_Rg {σ τ : mSt} (h : Inv σ) (q : qt SRg σ τ) (hs : τ.1 0 10 = τ.1 166 0) (hrg : RRg τ) : Inv τ := by
  have e1 : ∀ o k, SRg o k = false → τ.1 o k = σ.1 o k := fun o k g => (q o k g).1
  have e2 : ∀ o k, SRg o k = false → τ.2 o k = σ.2 o k := fun o k g => (q o k g).2
  have f1 : ∀ o, (∀ k, SRg o k = false) → τ.1 o = σ.1 o := fun o g => funext fun k => e1 o k (g k)
  have f2 : ∀ o, (∀ k, SRg o k = false) → τ.2 o = σ.2 o := fun o g => funext fun k => e2 o k (g k)
  obtain ⟨h1, h2, h3, h4, h5, h6, h7, h8, h9, h10, h11⟩ := h
  refine ⟨hs, ?_, ?_, ?_, ?_, ?_, ?_, ?_, ?_, ?_, ?_⟩
  · rw [e2 0 11 rfl, e2 0 12 rfl, e2 166 2 rfl, e2 166 3 rfl]; exact h2
  · rw [e1 0 13 rfl, e1 0 14 rfl, e1 166 10 rfl, e1 166 11 rfl]; exact h3
  · rw [f1 7 (fun _ => rfl), f1 170 (fun _ => rfl), e1 6 2 rfl, e1 166 8 rfl]; exact h4
  · exact ⟨by rw [e1 177 0 rfl]; exact h5.1, by rw [e1 178 0 rfl]; exact h5.2.1, fun t ht k => by rw [e1 (t + 9) k (by rcases ht with rfl | rfl | rfl | rfl | rfl <;> rfl)]; exact h5.2.2 t ht k⟩
  · unfold RTr; rw [f2 2 (fun _ => rfl), f2 169 (fun _ => rfl), f1 3 (fun _ => rfl), f1 167 (fun _ => rfl), f1 4 (fun _ => rfl), f1 168 (fun _ => rfl)]; exact h6
  · obtain ⟨k, b1, b2, b3, b4⟩ := h7
    refine ⟨k, b1, by rw [e1 0 9 rfl]; exact b2, by rw [e1 166 23 rfl]; exact b3, fun i hi => ?_⟩
    have ec : (fun j => τ.1 171 (600 * (i + 1) + j)) = fun j => σ.1 171 (600 * (i + 1) + j) := funext fun j => e1 171 _ (by simp only [SRg, SQ, Bool.or_eq_false_iff, Bool.and_eq_false_iff, beq_eq_false_iff_ne, decide_eq_false_iff_not, ne_eq]; omega)
    have ew : (fun j => τ.2 173 (20 * (i + 1) + j)) = fun j => σ.2 173 (20 * (i + 1) + j) := funext fun j => e2 173 _ (by simp only [SRg, SQ, Bool.or_eq_false_iff, Bool.and_eq_false_iff, beq_eq_false_iff_ne, decide_eq_false_iff_not, ne_eq]; omega)
    rw [ec, ew]
    obtain ⟨np, no, nl, nk, dy, g⟩ := b4 i hi
    exact ⟨np, no, nl, nk, dy, TRel_q q (fun j k' hj x1 x2 => SRg_T (by omega) hj x1 x2) g⟩
  · unfold RLv; rw [e1 0 15 rfl, e1 166 37 rfl, e1 73 4 rfl, e1 73 5 rfl, e1 73 6 rfl, e1 73 7 rfl, e1 73 8 rfl, f1 183 (fun _ => rfl)]; exact h8
  · exact hrg
  · unfold RKw; rw [f2 8 (fun _ => rfl)]; exact h10
  · rw [f1 171 (fun _ => rfl), f2 173 (fun _ => rfl)]
    obtain ⟨np, no, nl, nk, dy, g⟩ := h11
    exact ⟨np, no, nl, nk, dy, TRel_q q (fun j k' hj x1 x2 => by simp only [SRg, SQ, Bool.or_eq_false_iff, Bool.and_eq_false_iff, beq_eq_false_iff_ne, decide_eq_false_iff_not, ne_eq]; omega) g⟩
theorem P_ring {E : mEn} {d : Nat} {σ : mSt} {u1 u2 u3 u4 : Value} (hI : Inv σ) : pairI E (d + 12) mPb_ring mMo_ring [.ref 0, u1] [.ref 166, u2, u3, u4] σ := by
  obtain ⟨np, no, nl, nk, dy, hT⟩ := Inv_town hI
  obtain ⟨⟨b1, b2, b3, b4, b5⟩, ⟨t1, c1⟩, ⟨t2, c2⟩, ⟨t3, c3⟩, ⟨t4, c4⟩, ⟨t5, c5⟩, c6, gP, gO, gL, gB, gK, -⟩ := id hT
  have hq : ∀ τ : mSt, qt SQ σ τ → (sI (sI τ 166 1 0) 166 0 0).1 171 = σ.1 171 := fun τ q => funext fun k => (q 171 k rfl).1
  have mp := @mpq E σ np c1 b1
  have ml := @mlq E σ nl c3 b3
  have mk := @mkq E σ nk c4 b4
  have hne : ∀ k, k < nk → rG (σ.1 171) k ≠ rT (σ.1 171) k := fun k hk => (rGT hT hk).2.2.2.2
  have htt : ∀ k, k < nk → rT (σ.1 171) k < np := fun k hk => (rGT hT hk).2.2.2.1
  have hgg : ∀ k, k < nk → rG (σ.1 171) k < np := fun k hk => (rGT hT hk).2.2.1
  have ht8 : ∀ k, k < nk → rT (σ.1 171) k < 8 := fun k hk => by have := htt k hk; omega
  have hg8 : ∀ k, k < nk → rG (σ.1 171) k < 8 := fun k hk => by have := hgg k hk; omega
  -- a search that succeeds gives a way
  have snd : ∀ k m l, k < nk → gr (rMd (σ.1 171)) (rG (σ.1 171)) (rT (σ.1 171)) nk k (rG (σ.1 171) k) (m - 1) (rT (σ.1 171) k) (2 ^ rG (σ.1 171) k) = some l → DD (rMd (σ.1 171)) (rG (σ.1 171)) (rT (σ.1 171)) nk (rT (σ.1 171) k) (rG (σ.1 171) k) ≤ m - 1 := fun k m l hk h => DD_k hne ht8 _ _ _ (gr_w _ _ _ l h).1
  have A1 : (∀ k, k < nk → rMd (σ.1 171) k = true → 8 < 1 + DD (rMd (σ.1 171)) (rG (σ.1 171)) (rT (σ.1 171)) nk (rT (σ.1 171) k) (rG (σ.1 171) k)) ∨ ∃ k, k < nk ∧ rMd (σ.1 171) k = true ∧ 1 + DD (rMd (σ.1 171)) (rG (σ.1 171)) (rT (σ.1 171)) nk (rT (σ.1 171) k) (rG (σ.1 171) k) ≤ 8 := by
    by_cases z : ∃ k, k < nk ∧ rMd (σ.1 171) k = true ∧ 1 + DD (rMd (σ.1 171)) (rG (σ.1 171)) (rT (σ.1 171)) nk (rT (σ.1 171) k) (rG (σ.1 171) k) ≤ 8
    · exact Or.inr z
    · exact Or.inl (fun k hk hm => Nat.lt_of_not_le (fun y => z ⟨k, hk, hm, y⟩))
  rcases A1 with none | some
  · refine pairI_q hI (-1) (nI 8) (fun Q k => ?_) (fun τ q Q k => ?_)
    · rw [bPb_ring_0]
      refine Ne_findRing T10 hT (fun _ υ q => ?_) (fun s L hs hm eL hL _ _ => ?_)
      · rw [tl_s, bPb_ring_14, ite_nn rfl, bPb_ring_20, bPb_refuse_0, tl_s, bPb_ring_26, bPb_ring_34]
        exact k _ (qt_sI (qt_mono q (fun o k h => by simp only [S71, beq_iff_eq] at h; subst h; rfl)) rfl) rfl
      · exfalso
        have := none s hs hm
        rw [← eL] at this
        exact absurd hL (Nat.not_le_of_lt this)
    · rw [bMo_ring_0]
      have hfail : ∀ m k, 2 ≤ m → m < np + 1 → k < nk → rMd (σ.1 171) k = true → gr (rMd (σ.1 171)) (rG (σ.1 171)) (rT (σ.1 171)) nk k (rG (σ.1 171) k) (m - 1) (rT (σ.1 171) k) (2 ^ rG (σ.1 171) k) = Option.none := fun m x h2 hm hx hmd => by
        cases e : gr (rMd (σ.1 171)) (rG (σ.1 171)) (rT (σ.1 171)) nk x (rG (σ.1 171) x) (m - 1) (rT (σ.1 171) x) (2 ^ rG (σ.1 171) x) with
        | none => rfl
        | some l =>
          exfalso
          have a1 := snd x m l hx e
          have a2 := none x hx hmd
          generalize DD (rMd (σ.1 171)) (rG (σ.1 171)) (rT (σ.1 171)) nk (rT (σ.1 171) x) (rG (σ.1 171) x) = D at a1 a2
          omega
      by_cases n1 : np + 1 < 2
      · rw [show (nI 2) = nI 2 from rfl, bMo_ring_12, if_neg (by decide), hq τ q, c1, if_pos (nI_lt (by omega) (by omega)), bMo_ring_121, bMo_refuse_0, tl_s, bMo_ring_127]
        exact k _ (by repeat' (first | exact qt_rf | assumption | refine qt_sI ?_ rfl | refine qt_sL ?_ rfl)) rfl rfl
      refine Mo_rg_out (σ := sI (sI τ 166 1 0) 166 0 0) (M := np + 1) hT (Nat.le_refl _) hfail (np + 1 - 2) 2 _ _ _ (by omega) (Nat.le_refl _) qt_rf (hq τ q) (fun υ u2 u3 q2 hc2 => ?_)
      rw [bMo_ring_12, if_neg (by decide), hc2, c1, if_pos (nI_lt (by omega) (by omega)), bMo_ring_121, bMo_refuse_0, tl_s, bMo_ring_127]
      exact k _ (qt_sI (qt_tr (τ := sI (sI τ 166 1 0) 166 0 0) (by repeat' (first | exact qt_rf | assumption | refine qt_sI ?_ rfl | refine qt_sL ?_ rfl)) (qt_mono q2 (fun o k h => by simp only [S179, beq_iff_eq] at h; subst h; rfl))) rfl) rfl (q2 0 10 rfl).1
  unfold pairI
  rw [bPb_ring_0]
  refine Ne_findRing T10 hT (fun h υ q => ?_) (fun s L hs hm eL hL hmin hfst υ q hfound => ?_)
  · obtain ⟨k, hk, hkm, hk8⟩ := some
    exact absurd hk8 (Nat.not_le_of_lt (h k hk hkm))
  clear some
  obtain ⟨g1, g2, g3, g4, g5⟩ := rGT hT hs
  have L2 : 2 ≤ L := by
    refine Nat.lt_of_not_le (fun y => ?_)
    have d0 : DD (rMd (σ.1 171)) (rG (σ.1 171)) (rT (σ.1 171)) nk (rT (σ.1 171) s) (rG (σ.1 171) s) = 0 := by
      generalize DD (rMd (σ.1 171)) (rG (σ.1 171)) (rT (σ.1 171)) nk (rT (σ.1 171) s) (rG (σ.1 171) s) = D at eL ⊢
      omega
    have w := DD_w (md := rMd (σ.1 171)) (g := rG (σ.1 171)) (t := rT (σ.1 171)) (nk := nk) (u := rT (σ.1 171) s) (v := rG (σ.1 171) s) (by rw [d0]; decide)
    rw [d0] at w
    exact g5 w.symm
  obtain ⟨n, en⟩ : ∃ n, n = DD (rMd (σ.1 171)) (rG (σ.1 171)) (rT (σ.1 171)) nk (rT (σ.1 171) s) (rG (σ.1 171) s) := ⟨_, rfl⟩
  have eLn : L = 1 + n := by rw [en]; exact eL
  have Lnp : n + 1 ≤ np := DD_np hne b1 htt g4 en.symm (by clear en eL hmin hfst; omega)
  have GR : gr (rMd (σ.1 171)) (rG (σ.1 171)) (rT (σ.1 171)) nk s (rG (σ.1 171) s) (L - 1) (rT (σ.1 171) s) (2 ^ rG (σ.1 171) s) = Option.some (gd (rMd (σ.1 171)) (rG (σ.1 171)) (rT (σ.1 171)) nk (rG (σ.1 171) s) (L - 1) (rT (σ.1 171) s)) := by
    refine gr_gd (L := L) hne ht8 hg8 (by clear en eL hmin hfst; omega) (hg8 s hs) rfl hmin hfst (L - 1) (rT (σ.1 171) s) (2 ^ rG (σ.1 171) s) 1 (by clear en eL hmin hfst; omega) (ht8 s hs) (show 2 ^ rG (σ.1 171) s < 2 ^ 8 from Nat.pow_lt_pow_right (by omega) (hg8 s hs)) (by rw [Nat.testBit_two_pow_self]) (fun x hx hb => ?_) (by rw [← en, eLn, Nat.add_sub_cancel_left])
    rw [Nat.testBit_two_pow, decide_eq_true_eq] at hb
    exact ⟨s, hs, hm, hb, by rw [DD_d hne]; exact Nat.le_refl _⟩
  have FL : ∀ m k, 2 ≤ m → m < L → k < nk → rMd (σ.1 171) k = true → gr (rMd (σ.1 171)) (rG (σ.1 171)) (rT (σ.1 171)) nk k (rG (σ.1 171) k) (m - 1) (rT (σ.1 171) k) (2 ^ rG (σ.1 171) k) = Option.none := fun m x h2 hmL hx hmd => by
    cases e : gr (rMd (σ.1 171)) (rG (σ.1 171)) (rT (σ.1 171)) nk x (rG (σ.1 171) x) (m - 1) (rT (σ.1 171) x) (2 ^ rG (σ.1 171) x) with
    | none => rfl
    | some l =>
      exfalso
      have a1 := snd x m l hx e
      have a2 := hmin x hx hmd
      clear en eL hmin hfst
      generalize DD (rMd (σ.1 171)) (rG (σ.1 171)) (rT (σ.1 171)) nk (rT (σ.1 171) x) (rG (σ.1 171) x) = D at a1 a2
      omega
  have FS : ∀ k, k < s → rMd (σ.1 171) k = true → gr (rMd (σ.1 171)) (rG (σ.1 171)) (rT (σ.1 171)) nk k (rG (σ.1 171) k) (L - 1) (rT (σ.1 171) k) (2 ^ rG (σ.1 171) k) = Option.none := fun x hx hmd => by
    have hxn : x < nk := Nat.lt_trans hx hs
    cases e : gr (rMd (σ.1 171)) (rG (σ.1 171)) (rT (σ.1 171)) nk x (rG (σ.1 171) x) (L - 1) (rT (σ.1 171) x) (2 ^ rG (σ.1 171) x) with
    | none => rfl
    | some l =>
      exfalso
      have a1 := snd x L l hxn e
      have a2 := hfst x hx hxn hmd
      clear en eL hmin hfst
      generalize DD (rMd (σ.1 171)) (rG (σ.1 171)) (rT (σ.1 171)) nk (rT (σ.1 171) x) (rG (σ.1 171) x) = D at a1 a2
      omega
  have LEN := (gr_w _ _ _ _ GR).2
  generalize gd (rMd (σ.1 171)) (rG (σ.1 171)) (rT (σ.1 171)) nk (rG (σ.1 171) s) (L - 1) (rT (σ.1 171) s) = lst at hfound GR LEN
  clear en eL hmin hfst snd
  have q72 : ∀ o k, o ≠ 71 → o ≠ 72 → υ.1 o k = σ.1 o k ∧ υ.2 o k = σ.2 o k := fun o k h1 h2 => q o k (by simp only [S71, S72, Bool.or_eq_false_iff, beq_eq_false_iff_ne]; exact ⟨h1, h2⟩)
  rw [tl_s, bPb_ring_14, if_pos (nI_m1 (by omega)), bPb_ring_29, bPb_answer_0, tl_s, bPb_ring_34]
  refine ⟨nI L, rfl, ?_⟩
  rw [bMo_ring_0]
  have hc0 : (sI (sI (sI (sI υ 68 4 (nI L)) 0 10 0) 166 1 0) 166 0 0).1 171 = σ.1 171 := funext fun k => (q72 171 k (by omega) (by omega)).1
  refine Mo_rg_out (σ := sI (sI (sI (sI υ 68 4 (nI L)) 0 10 0) 166 1 0) 166 0 0) (M := L) hT (by omega) FL (L - 2) 2 _ _ _ (by omega) (Nat.le_refl _) qt_rf hc0 (fun φ u2 u3 q2 hc2 => ?_)
  rw [bMo_ring_12, if_neg (by decide), hc2, c1, if_neg (nI_nlt (by omega) (by omega)), bMo_ring_22]
  refine Mo_rg_fail (σ := sI (sI (sI (sI υ 68 4 (nI L)) 0 10 0) 166 1 0) 166 0 0) hT hL L2 (Nat.le_of_lt hs) FS s 0 φ (by omega) q2 hc2 (fun ψ q3 hc3 => ?_)
  have mz : σ.1 171 (82 + 6 * s + 5) = 0 := by unfold rMd at hm; simpa using hm
  have p8 : 2 ^ rG (σ.1 171) s < 2 ^ 8 := Nat.pow_lt_pow_right (by omega) (by omega)
  rw [bMo_ring_24, if_neg (by decide), hc3, c4, if_neg (nI_ge (by omega) (by omega)), bMo_ring_34, Mo_isMade (show s < 40 by omega), tl_s, bMo_ring_39, hc3, b2i_t mz, if_pos i10, bMo_ring_45, if_neg (by decide), Mo_part, tl_s, bMo_ring_64, nI_add, mOut_f (by omega) (by omega), nI_clamp (by omega), show (sI ψ 179 0 (nI s)).1 171 = σ.1 171 from hc3, g1, if_neg (by decide), shl9 (by omega)]
  refine Mo_goes hT hs hL (L - 1) (d + 11) (rT (σ.1 171) s) (2 ^ rG (σ.1 171) s) 1 s (sI ψ 179 0 (nI s)) _ uu uu uu (by omega) (by omega) (Nat.le_refl _) hc3 sI_e sI_e hs rfl p8 (fun l χ el q4 h4 h5 => ?_) (fun χ el => ?_)
  rotate_left
  · rw [GR] at el; cases el
  have el2 : l = lst := by rw [GR] at el; injection el with el; exact el.symm
  subst el2
  rw [tl_s, bMo_ring_71, if_pos i10, bMo_ring_77]
  refine Mo_rg_copy hL L 0 _ (by omega) (fun ω q5 _ h6 => ⟨rfl, ?_⟩)
  have Z : qt SRg σ ω := by
    refine qt_tr (τ := sI χ 166 33 (nI L)) (qt_sI (qt_tr (τ := sI ψ 179 0 (nI s)) (qt_sI (qt_tr (τ := sI (sI (sI (sI υ 68 4 (nI L)) 0 10 0) 166 1 0) 166 0 0) (qt_sI (qt_sI (qt_sI (qt_sI (qt_mono q (fun o k h => ?_)) rfl) rfl) rfl) rfl) (qt_mono q3 (fun o k h => ?_))) rfl) (qt_mono q4 (fun o k h => ?_))) rfl) (qt_mono q5 (fun o k h => ?_))
    · simp only [S71, S72, Bool.or_eq_true, beq_iff_eq] at h
      rcases h with rfl | rfl <;> rfl
    · simp only [S179, beq_iff_eq] at h; subst h; rfl
    · simp only [S179, beq_iff_eq] at h; subst h; rfl
    · simp only [beq_iff_eq] at h; subst h; rfl
  refine Inv_Rg hI Z ?_ ⟨L, by omega, ?_, ?_, fun i hi => ?_⟩
  · rw [(q5 0 10 rfl).1, (q5 166 0 rfl).1]
    show χ.1 0 10 = χ.1 166 0
    rw [(q4 0 10 rfl).1, (q4 166 0 rfl).1]
    show ψ.1 0 10 = ψ.1 166 0
    rw [(q3 0 10 rfl).1, (q3 166 0 rfl).1]; rfl
  · rw [(q5 68 4 rfl).1]
    show χ.1 68 4 = nI L
    rw [(q4 68 4 rfl).1]
    show ψ.1 68 4 = nI L
    rw [(q3 68 4 rfl).1]; rfl
  · rw [(q5 166 33 rfl).1]; rfl
  · rw [h6 i (by omega) hi, (q5 72 i rfl).1]
    show χ.1 72 i = χ.1 179 i
    rw [(q4 72 i rfl).1]
    show ψ.1 72 i = χ.1 179 i
    rw [(q3 72 i rfl).1]
    show υ.1 72 i = χ.1 179 i
    cases i with
    | zero =>
      rw [hfound 0 s rfl, h4 0 (by omega), sI_e]
    | succ i =>
      have hy : l[i]? = some l[i] := List.getElem?_eq_getElem (by omega)
      rw [hfound (i + 1) l[i] hy, Nat.add_comm i 1, h5 i l[i] hy]
