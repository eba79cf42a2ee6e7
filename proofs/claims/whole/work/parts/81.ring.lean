/-! ring: the programs -/
def rMd (c : Nat → Int32) (k : Nat) : Bool := decide (c (82 + 6 * k + 5) = 0)
def rG (c : Nat → Int32) (k : Nat) : Nat := (c (82 + 6 * k + 2)).toNatClampNeg
def rT (c : Nat → Int32) (k : Nat) : Nat := (c (82 + 6 * k + 3)).toNatClampNeg
theorem rGT {σ : mSt} {t np no nl nk dy : Nat} {c : Nat → Int32} {w : Nat → Int64} (hT : TRel σ t c w np no nl nk dy) {k : Nat} (hk : k < nk) : c (82 + 6 * k + 2) = nI (rG c k) ∧ c (82 + 6 * k + 3) = nI (rT c k) ∧ rG c k < np ∧ rT c k < np ∧ rG c k ≠ rT c k := by
  obtain ⟨⟨b1, b2, b3, b4, b5⟩, -, -, -, -, -, -, -, -, -, -, gK, -⟩ := id hT
  obtain ⟨-, -, ⟨-, p, hp, ep⟩, ⟨-, q, hq, eq⟩, -, -, hne⟩ := gK k hk
  have e1 : rG c k = p := by unfold rG; rw [ep, nI_clamp (by omega)]
  have e2 : rT c k = q := by unfold rT; rw [eq, nI_clamp (by omega)]
  rw [e1, e2]
  exact ⟨ep, eq, hp, hq, fun e => hne (by rw [ep, eq, e])⟩
def MX (τ : mSt) (M : Nat → Nat → Nat) : Prop := ∀ u v, u < 8 → v < 8 → τ.1 71 (u * 8 + v) = nI (M u v)
def S71 (o k : Nat) : Bool := o == 71
theorem S71_T {t j k : Nat} (ht : isT t) (hj : j < 25) : S71 (t + j) k = false := by
  have := isT_lt ht
  simp only [S71, beq_eq_false_iff_ne]; omega
theorem MX_s {τ : mSt} {M N : Nat → Nat → Nat} {a b : Nat} {x : Int32} (h : MX τ M) (hb : b < 8) (hx : x = nI (N a b)) (hN : ∀ u v, ¬ (u = a ∧ v = b) → N u v = M u v) : MX (sI τ 71 (a * 8 + b) x) N := fun u v hu hv => by
  by_cases e : u = a ∧ v = b
  · rw [e.1, e.2, sI_e, hx]
  · rw [sI_n (Or.inr (by omega)), hN u v e]
    exact h u v hu hv
theorem Ne_me_d {E : mEn} {d : Nat} {Q : mPost} {t : Nat} {u3 u4 u5 : Value} (ht : isT t) : ∀ (j p : Nat) (τ : mSt), p + j = 8 → MX τ (fun u v => if u = v ∧ u < p then 0 else 1000) → (∀ υ, qt S71 τ υ → MX υ (fun u v => if u = v then 0 else 1000) → WP E d mNe_measure 36 [.ref 68, .ref (t + 3), .int (nI 8), u3, u4, u5] [] υ Q) → WP E d mNe_measure 12 [.ref 68, .ref (t + 3), .int (nI p), u3, u4, u5] [] τ Q
  | 0, p, τ, e, h, hQ => by
    have e' : p = 8 := by omega
    subst e'
    rw [bNe_measure_12 ht, if_pos (Int32.le_refl _)]
    refine hQ τ qt_rf (fun u v hu hv => ?_)
    rw [h u v hu hv]
    dsimp only
    by_cases x : u = v
    · rw [if_pos ⟨x, hu⟩, if_pos x]
    · rw [if_neg (fun y => x y.1), if_neg x]
  | j + 1, p, τ, e, h, hQ => by
    rw [bNe_measure_12 ht, if_neg (nI_ge (by omega) (by omega)), bNe_measure_18 ht, pk_mul, nI_add, mOut_f (by omega) (by omega), nI_clamp (by omega), if_neg (by decide), nI_1]
    refine Ne_me_d ht j (p + 1) _ (by omega) (MX_s h (by omega) ?_ (fun u v x => ?_)) (fun υ q => hQ υ (qt_tr (qt_sI qt_rf rfl) q))
    · rw [if_pos ⟨rfl, by omega⟩]; rfl
    · by_cases y : u = v
      · by_cases z : u < p
        · rw [if_pos ⟨y, by omega⟩, if_pos ⟨y, z⟩]
        · rw [if_neg (fun q => x ⟨by omega, by omega⟩), if_neg (fun q => z q.2)]
      · rw [if_neg (fun q => y q.1), if_neg (fun q => y q.1)]
theorem Ne_me_k {E : mEn} {d : Nat} {Q : mPost} {σ : mSt} {t np no nl nk dy : Nat} {c : Nat → Int32} {w : Nat → Int64} {u3 u4 u5 : Value} (ht : isT t) (hT : TRel σ t c w np no nl nk dy) : ∀ (j k : Nat) (τ : mSt), k + j = nk → qt S71 σ τ → MX τ (dI (rMd c) (rG c) (rT c) k) → (∀ υ, qt S71 σ υ → MX υ (dI (rMd c) (rG c) (rT c) nk) → WP E (d + 2) mNe_measure 82 [.ref 68, .ref (t + 3), .int (nI nk), u3, u4, u5] [] υ Q) → WP E (d + 2) mNe_measure 38 [.ref 68, .ref (t + 3), .int (nI k), u3, u4, u5] [] τ Q
  | 0, k, τ, e, q, h, hQ => by
    have e' : k = nk := by omega
    subst e'
    have hT' := TRel_q q (fun j k hj _ _ => S71_T ht hj) hT
    rw [bNe_measure_38 ht, hT'.2.2.2.2.1.1, if_pos (Int32.le_refl _)]
    exact hQ τ q h
  | j + 1, k, τ, e, q, h, hQ => by
    have hT' := TRel_q q (fun j k hj _ _ => S71_T ht hj) hT
    obtain ⟨⟨b1, b2, b3, b4, b5⟩, ⟨t1, c1⟩, ⟨t2, c2⟩, ⟨t3, c3⟩, ⟨t4, c4⟩, ⟨t5, c5⟩, c6, gP, gO, gL, gB, gK, -⟩ := id hT'
    have hk : k < nk := by omega
    obtain ⟨r1, r2, r3, r4, r5⟩ := rGT hT' hk
    obtain ⟨-, -, ⟨p3, -⟩, ⟨p4, -⟩, -, ⟨p6, -⟩, -⟩ := gK k hk
    rw [bNe_measure_38 ht, t4, if_neg (nI_ge (by omega) (by omega)), bNe_measure_46 ht, Pr_stands ht t4 b4 hk, tl_s, bNe_measure_51 ht, p6]
    by_cases z : c (82 + 6 * k + 5) = 0
    · have mz : rMd c k = true := by unfold rMd; simp [z]
      rw [b2i_t z, if_neg i10, bNe_measure_54 ht, mOut_f (n := k) (by omega) (by omega), nI_clamp (n := k) (by omega), p3, p4, r1, r2, pk_mul, nI_add, mOut_f (by omega) (by omega), nI_clamp (by omega), if_neg (by decide), if_neg (by decide), if_neg (by decide), bNe_measure_76 ht, nI_1]
      refine Ne_me_k ht hT j (k + 1) _ (by omega) (qt_sI q rfl) (MX_s h (by omega) ?_ (fun u v x => ?_)) hQ
      · rw [dI, if_pos ⟨mz, rfl, rfl⟩]; rfl
      · rw [dI, if_neg (fun y => x ⟨y.2.1.symm, y.2.2.symm⟩)]
    · have mz : ¬ rMd c k = true := by unfold rMd; simp [z]
      rw [b2i_f z, if_pos rfl, bNe_measure_76 ht, nI_1]
      refine Ne_me_k ht hT j (k + 1) τ (by omega) q (fun u v hu hv => ?_) hQ
      rw [dI, if_neg (fun y => mz y.1)]
      exact h u v hu hv
theorem Ne_fw_3 {E : mEn} {d : Nat} {Q : mPost} {t b f : Nat} {D : Nat → Nat → Nat} (ht : isT t) (hb : b < 8) (hf : f < 8) (hD : ∀ u, D u u = 0) (hB : ∀ u v, D u v ≤ 1000) : ∀ (j x : Nat) (τ : mSt) (u5 : Value), x + j = 8 → MX τ (fun u v => if u < f ∨ (u = f ∧ v < x) then fw D (b + 1) u v else fw D b u v) → (∀ υ u5, qt S71 τ υ → MX υ (fun u v => if u < f + 1 then fw D (b + 1) u v else fw D b u v) → WP E d mNe_measure 171 [.ref 68, .ref (t + 3), .int (nI b), .int (nI f), .int (nI 8), u5] [] υ Q) → WP E d mNe_measure 101 [.ref 68, .ref (t + 3), .int (nI b), .int (nI f), .int (nI x), u5] [] τ Q
  | 0, x, τ, u5, e, h, hQ => by
    have e' : x = 8 := by omega
    subst e'
    rw [bNe_measure_101 ht, if_pos (Int32.le_refl _)]
    refine hQ τ _ qt_rf (fun u v hu hv => ?_)
    rw [h u v hu hv]
    dsimp only
    by_cases y : u < f + 1
    · rw [if_pos y, if_pos (by omega)]
    · rw [if_neg y, if_neg (by omega)]
  | j + 1, x, τ, u5, e, h, hQ => by
    have IH := fun τ u5 => Ne_fw_3 (E := E) (d := d) (Q := Q) ht hb hf hD hB j (x + 1) τ u5 (by omega)
    have v1 : τ.1 71 (f * 8 + b) = nI (fw D b f b) := by
      rw [h f b hf hb]
      dsimp only
      split
      · rw [(fw_row hD b f).1]
      · rfl
    have v2 : τ.1 71 (b * 8 + x) = nI (fw D b b x) := by
      rw [h b x hb (by omega)]
      dsimp only
      split
      · rw [(fw_row hD b x).2]
      · rfl
    have v3 : τ.1 71 (f * 8 + x) = nI (fw D b f x) := by
      rw [h f x hf (by omega)]
      dsimp only
      rw [if_neg (by omega)]
    have B : ∀ u v, fw D b u v ≤ 1000 := fun u v => Nat.le_trans (fw_mono b) (hB u v)
    have B1 := B f b
    have B2 := B b x
    have B3 := B f x
    rw [bNe_measure_101 ht, if_neg (nI_ge (by omega) (by omega)), bNe_measure_108 ht, pk_mul, pk_mul, nI_add, nI_add, nI_add, mOut_f (n := f * 8 + b) (by omega) (by omega), mOut_f (n := b * 8 + x) (by omega) (by omega), mOut_f (n := f * 8 + x) (by omega) (by omega), nI_clamp (n := f * 8 + b) (by omega), nI_clamp (n := b * 8 + x) (by omega), nI_clamp (n := f * 8 + x) (by omega), v1, v2, v3, nI_add, if_neg (by decide), if_neg (by decide), if_neg (by decide)]
    by_cases z : fw D b f b + fw D b b x < fw D b f x
    · rw [if_neg (nI_ge z (by omega)), bNe_measure_151 ht, pk_mul, nI_add, mOut_f (by omega) (by omega), nI_clamp (by omega), if_neg (by decide), bNe_measure_165 ht, nI_1]
      refine IH _ _ (MX_s h (by omega) ?_ (fun u v y => ?_)) (fun υ u5 q => hQ υ u5 (qt_tr (qt_sI qt_rf rfl) q))
      · rw [if_pos (by omega), fw, if_pos z]
      · by_cases w : u < f ∨ (u = f ∧ v < x)
        · rw [if_pos w, if_pos (by omega)]
        · rw [if_neg w, if_neg (by omega)]
    · rw [if_pos (nI_le (by omega) (by omega)), bNe_measure_165 ht, nI_1]
      refine IH τ _ (fun u v hu hv => ?_) hQ
      rw [h u v hu hv]
      dsimp only
      by_cases w : u < f ∨ (u = f ∧ v < x)
      · rw [if_pos w, if_pos (by omega)]
      · rw [if_neg w]
        by_cases y : u = f ∧ v = x
        · rw [if_pos (by omega), y.1, y.2, fw, if_neg z]
        · rw [if_neg (by omega)]
theorem Ne_fw_2 {E : mEn} {d : Nat} {Q : mPost} {t b : Nat} {D : Nat → Nat → Nat} (ht : isT t) (hb : b < 8) (hD : ∀ u, D u u = 0) (hB : ∀ u v, D u v ≤ 1000) : ∀ (j f : Nat) (τ : mSt) (u4 u5 : Value), f + j = 8 → MX τ (fun u v => if u < f then fw D (b + 1) u v else fw D b u v) → (∀ υ u4 u5, qt S71 τ υ → MX υ (fw D (b + 1)) → WP E d mNe_measure 177 [.ref 68, .ref (t + 3), .int (nI b), .int (nI 8), u4, u5] [] υ Q) → WP E d mNe_measure 92 [.ref 68, .ref (t + 3), .int (nI b), .int (nI f), u4, u5] [] τ Q
  | 0, f, τ, u4, u5, e, h, hQ => by
    have e' : f = 8 := by omega
    subst e'
    rw [bNe_measure_92 ht, if_pos (Int32.le_refl _)]
    refine hQ τ _ _ qt_rf (fun u v hu hv => ?_)
    rw [h u v hu hv]
    dsimp only
    rw [if_pos hu]
  | j + 1, f, τ, u4, u5, e, h, hQ => by
    rw [bNe_measure_92 ht, if_neg (nI_ge (by omega) (by omega)), bNe_measure_98 ht]
    refine Ne_fw_3 ht hb (show f < 8 by omega) hD hB 8 0 τ _ (by omega) (fun u v hu hv => ?_) (fun υ u5 q g => ?_)
    · rw [h u v hu hv]
      dsimp only
      by_cases y : u < f
      · rw [if_pos y, if_pos (by omega)]
      · rw [if_neg y, if_neg (by omega)]
    · rw [bNe_measure_171 ht, nI_1]
      exact Ne_fw_2 ht hb hD hB j (f + 1) υ _ _ (by omega) g (fun φ u4 u5 q2 => hQ φ u4 u5 (qt_tr q q2))
theorem Ne_fw_1 {E : mEn} {d : Nat} {Q : mPost} {t : Nat} {D : Nat → Nat → Nat} (ht : isT t) (hD : ∀ u, D u u = 0) (hB : ∀ u v, D u v ≤ 1000) : ∀ (j b : Nat) (τ : mSt) (u3 u4 u5 : Value), b + j = 8 → MX τ (fw D b) → (∀ υ, qt S71 τ υ → MX υ (fw D 8) → Q none υ) → WP E d mNe_measure 84 [.ref 68, .ref (t + 3), .int (nI b), u3, u4, u5] [] τ Q
  | 0, b, τ, u3, u4, u5, e, h, hQ => by
    have e' : b = 8 := by omega
    subst e'
    rw [bNe_measure_84 ht, if_pos (Int32.le_refl _), bNe_measure_183 ht]
    exact hQ τ qt_rf h
  | j + 1, b, τ, u3, u4, u5, e, h, hQ => by
    rw [bNe_measure_84 ht, if_neg (nI_ge (by omega) (by omega)), bNe_measure_90 ht]
    refine Ne_fw_2 ht (show b < 8 by omega) hD hB 8 0 τ _ _ (by omega) (fun u v hu hv => ?_) (fun υ u4 u5 q g => ?_)
    · rw [h u v hu hv]
      dsimp only
      rw [if_neg (by omega)]
    · rw [bNe_measure_177 ht, nI_1]
      exact Ne_fw_1 ht hD hB j (b + 1) υ _ _ _ (by omega) g (fun φ q2 => hQ φ (qt_tr q q2))
theorem Ne_measure {E : mEn} {d : Nat} {Q : mPost} {σ : mSt} {t np no nl nk dy : Nat} {c : Nat → Int32} {w : Nat → Int64} {u2 u3 u4 u5 : Value} (ht : isT t) (hT : TRel σ t c w np no nl nk dy) (hQ : ∀ υ, qt S71 σ υ → MX υ (DD (rMd c) (rG c) (rT c) nk) → Q none υ) : WP E (d + 2) mNe_measure 0 [.ref 68, .ref (t + 3), u2, u3, u4, u5] [] σ Q := by
  rw [bNe_measure_0 ht, Ar_fill (n := 64) rfl (by omega) (by omega), tl_n, bNe_measure_10 ht]
  have q0 : qt S71 σ (fillI σ 71 0 64 (nI 1000)) := qt_fI qt_rf (fun _ => rfl)
  refine Ne_me_d ht 8 0 _ (by omega) (fun u v hu hv => ?_) (fun υ q g => ?_)
  · show (if 71 = 71 ∧ 0 ≤ u * 8 + v ∧ u * 8 + v < 0 + 64 then nI 1000 else σ.1 71 (u * 8 + v)) = _
    rw [if_pos (by omega)]
    dsimp only
    rw [if_neg (by omega)]
  rw [bNe_measure_36 ht]
  refine Ne_me_k ht hT nk 0 υ (by omega) (qt_tr q0 q) g (fun φ q2 g2 => ?_)
  rw [bNe_measure_82 ht]
  refine Ne_fw_1 ht (fun u => dI_d (fun k hk => (rGT hT hk).2.2.2.2) nk u (Nat.le_refl _)) (fun u v => dI_b nk u v) 8 0 φ _ _ _ (by omega) g2 (fun ψ q3 g3 => hQ ψ (qt_tr q2 q3) g3)
theorem Ne_way {E : mEn} {d : Nat} {Q : mPost} {τ : mSt} {a b : Nat} {M : Nat → Nat → Nat} {u : Value} (h : MX τ M) (ha : a < 8) (hb : b < 8) : WP E d mNe_way 0 [.ref 68, .int (nI a), .int (nI b), u] [] τ Q = Q (some (.int (nI (M a b)))) τ := by
  rw [bNe_way_0, pk_mul, nI_add, if_neg (nI_pos (by omega)), bNe_way_11, if_neg (nI_ge (by omega) (by omega)), bNe_way_20, mOut_f (by omega) (by omega), nI_clamp (by omega), if_neg (by decide), bNe_way_32, h a b ha hb]
/-- the promise that begins the shortest ring, and how long it is -/
def rsF (md : Nat → Bool) (g t : Nat → Nat) (D : Nat → Nat → Nat) : Nat → Nat → Int32 × Nat → Int32 × Nat
  | 0, _, s => s
  | j + 1, k, s => rsF md g t D j (k + 1) (if md k = true ∧ 1 + D (t k) (g k) < s.2 then (nI k, 1 + D (t k) (g k)) else s)
def rsI (md : Nat → Bool) (g t : Nat → Nat) (D : Nat → Nat → Nat) (k : Nat) (s : Int32 × Nat) : Prop := (s.1 = -1 ∧ s.2 = 1000 ∧ ∀ x, x < k → md x = true → 1000 ≤ 1 + D (t x) (g x)) ∨ ∃ i, i < k ∧ s.1 = nI i ∧ md i = true ∧ s.2 = 1 + D (t i) (g i) ∧ s.2 < 1000 ∧ (∀ x, x < k → md x = true → s.2 ≤ 1 + D (t x) (g x)) ∧ ∀ x, x < i → md x = true → s.2 < 1 + D (t x) (g x)
theorem rsF_I {md : Nat → Bool} {g t : Nat → Nat} {D : Nat → Nat → Nat} : ∀ (j k : Nat) (s : Int32 × Nat), rsI md g t D k s → rsI md g t D (k + j) (rsF md g t D j k s)
  | 0, k, s, h => h
  | j + 1, k, s, h => by
    rw [rsF, show k + (j + 1) = (k + 1) + j by omega]
    refine rsF_I j (k + 1) _ ?_
    by_cases z : md k = true ∧ 1 + D (t k) (g k) < s.2
    · rw [if_pos z]
      refine Or.inr ⟨k, by omega, rfl, z.1, rfl, ?_, fun x hx hm => ?_, fun x hx hm => ?_⟩
      · rcases h with ⟨-, h2, -⟩ | ⟨i, -, -, -, -, h5, -⟩
        · show 1 + D (t k) (g k) < 1000; omega
        · show 1 + D (t k) (g k) < 1000; omega
      · show 1 + D (t k) (g k) ≤ _
        by_cases e : x = k
        · subst e; omega
        · rcases h with ⟨-, h2, h3⟩ | ⟨i, -, -, -, -, -, h6, -⟩
          · have := h3 x (by omega) hm; omega
          · have := h6 x (by omega) hm; omega
      · show 1 + D (t k) (g k) < _
        rcases h with ⟨-, h2, h3⟩ | ⟨i, -, -, -, -, -, h6, -⟩
        · have := h3 x (by omega) hm; omega
        · have := h6 x (by omega) hm; omega
    · rw [if_neg z]
      rcases h with ⟨h1, h2, h3⟩ | ⟨i, h1, h2, h3, h4, h5, h6, h7⟩
      · refine Or.inl ⟨h1, h2, fun x hx hm => ?_⟩
        by_cases e : x = k
        · subst e
          exact Nat.le_of_not_lt (fun y => z ⟨hm, by omega⟩)
        · exact h3 x (by omega) hm
      · refine Or.inr ⟨i, by omega, h2, h3, h4, h5, fun x hx hm => ?_, h7⟩
        by_cases e : x = k
        · subst e
          exact Nat.le_of_not_lt (fun y => z ⟨hm, y⟩)
        · exact h6 x (by omega) hm
theorem Ne_scan {E : mEn} {d : Nat} {Q : mPost} {τ : mSt} {t np no nl nk dy : Nat} {c : Nat → Int32} {w : Nat → Int64} {M : Nat → Nat → Nat} {u5 u6 : Value} (ht : isT t) (hT : TRel τ t c w np no nl nk dy) (h : MX τ M) (hM : ∀ u v, M u v ≤ 1000) : ∀ (j k : Nat) (s : Int32 × Nat), k + j = nk → s.2 ≤ 1001 → WP E (d + 2) mNe_findRing 14 [.ref 68, .ref (t + 3), .int s.1, .int (nI s.2), .int (nI k), u5, u6] [] τ Q = WP E (d + 2) mNe_findRing 86 [.ref 68, .ref (t + 3), .int (rsF (rMd c) (rG c) (rT c) M j k s).1, .int (nI (rsF (rMd c) (rG c) (rT c) M j k s).2), .int (nI nk), u5, u6] [] τ Q
  | 0, k, s, e, hs => by
    have e' : k = nk := by omega
    subst e'
    rw [bNe_findRing_14 ht, hT.2.2.2.2.1.1, if_pos (Int32.le_refl _)]; rfl
  | j + 1, k, s, e, hs => by
    obtain ⟨⟨b1, b2, b3, b4, b5⟩, ⟨t1, c1⟩, ⟨t2, c2⟩, ⟨t3, c3⟩, ⟨t4, c4⟩, ⟨t5, c5⟩, c6, gP, gO, gL, gB, gK, -⟩ := id hT
    have hk : k < nk := by omega
    obtain ⟨r1, r2, r3, r4, r5⟩ := rGT hT hk
    obtain ⟨-, -, ⟨p3, -⟩, ⟨p4, -⟩, -, ⟨p6, -⟩, -⟩ := gK k hk
    have IH := fun s hs => Ne_scan (E := E) (d := d) (Q := Q) (u5 := u5) (u6 := u6) ht hT h hM j (k + 1) s (by omega) hs
    have m1 := hM (rT c k) (rG c k)
    have e1 : (1 : Int32) + nI (M (rT c k) (rG c k)) = nI (1 + M (rT c k) (rG c k)) := nI_add 1 _
    rw [bNe_findRing_14 ht, t4, if_neg (nI_ge (by omega) (by omega)), bNe_findRing_23 ht, Pr_stands ht t4 b4 hk, tl_s, bNe_findRing_29 ht, p6, rsF]
    by_cases z : c (82 + 6 * k + 5) = 0
    · have mz : rMd c k = true := by unfold rMd; simp [z]
      rw [b2i_t z, if_neg i10, bNe_findRing_32 ht, mOut_f (n := k) (by omega) (by omega), nI_clamp (n := k) (by omega), p3, p4, r1, r2, if_neg (by decide), if_neg (by decide), Ne_way h (by omega) (by omega), tl_s, bNe_findRing_51 ht, e1]
      by_cases y : 1 + M (rT c k) (rG c k) < s.2
      · rw [if_neg (nI_ge y (by omega)), bNe_findRing_56 ht, mOut_f (n := k) (by omega) (by omega), nI_clamp (n := k) (by omega), p3, p4, r1, r2, if_neg (by decide), if_neg (by decide), Ne_way h (by omega) (by omega), tl_s, bNe_findRing_78 ht, e1, bNe_findRing_80 ht, nI_1, if_pos ⟨mz, y⟩]
        exact IH (nI k, 1 + M (rT c k) (rG c k)) (by show 1 + M (rT c k) (rG c k) ≤ 1001; omega)
      · rw [if_pos (nI_le (by omega) (by omega)), bNe_findRing_80 ht, nI_1, if_neg (fun q => y q.2)]
        exact IH s hs
    · have mz : ¬ rMd c k = true := by unfold rMd; simp [z]
      rw [b2i_f z, if_pos rfl, bNe_findRing_80 ht, nI_1, if_neg (fun q => mz q.1)]
      exact IH s hs
def nwI (c : Nat → Int32) (M : Nat → Nat → Nat) (nk home a : Nat) (lb : Int32) : Nat → Nat → Int32
  | 0, _ => -1
  | j + 1, k => if rMd c k = true ∧ rG c k = a ∧ nI (M (rT c k) home) = lb then nI k else nwI c M nk home a lb j (k + 1)
theorem Ne_next_loop {E : mEn} {d : Nat} {Q : mPost} {τ : mSt} {t np no nl nk dy home a : Nat} {c : Nat → Int32} {w : Nat → Int64} {M : Nat → Nat → Nat} {lb : Int32} (ht : isT t) (hT : TRel τ t c w np no nl nk dy) (h : MX τ M) (hh : home < 8) (ha : a < 8) : ∀ (j k : Nat), k + j = nk → WP E (d + 2) mNe_nextOnWay 3 [.ref 68, .ref (t + 3), .int (nI a), .int (nI home), .int lb, .int (nI k)] [] τ Q = Q (some (.int (nwI c M nk home a lb j k))) τ
  | 0, k, e => by
    have e' : k = nk := by omega
    subst e'
    rw [bNe_nextOnWay_3 ht, hT.2.2.2.2.1.1, if_pos (Int32.le_refl _), bNe_nextOnWay_58 ht]; rfl
  | j + 1, k, e => by
    obtain ⟨⟨b1, b2, b3, b4, b5⟩, ⟨t1, c1⟩, ⟨t2, c2⟩, ⟨t3, c3⟩, ⟨t4, c4⟩, ⟨t5, c5⟩, c6, gP, gO, gL, gB, gK, -⟩ := id hT
    have hk : k < nk := by omega
    obtain ⟨r1, r2, r3, r4, r5⟩ := rGT hT hk
    obtain ⟨-, -, ⟨p3, -⟩, ⟨p4, -⟩, -, ⟨p6, -⟩, -⟩ := gK k hk
    have IH := Ne_next_loop (E := E) (d := d) (Q := Q) (lb := lb) ht hT h hh ha j (k + 1) (by omega)
    rw [bNe_nextOnWay_3 ht, t4, if_neg (nI_ge (by omega) (by omega)), bNe_nextOnWay_12 ht, Pr_stands ht t4 b4 hk, tl_s, bNe_nextOnWay_18 ht, p6, nwI]
    by_cases z : c (82 + 6 * k + 5) = 0
    rotate_left
    · have mz : ¬ rMd c k = true := by unfold rMd; simp [z]
      rw [b2i_f z, if_pos rfl, bNe_nextOnWay_52 ht, nI_1, if_neg (fun q => mz q.1)]
      exact IH
    have mz : rMd c k = true := by unfold rMd; simp [z]
    rw [b2i_t z, if_neg i10, bNe_nextOnWay_21 ht, mOut_f (n := k) (by omega) (by omega), nI_clamp (n := k) (by omega), p3, r1, if_neg (show ¬ false = true by decide)]
    by_cases y : rG c k = a
    rotate_left
    · rw [if_pos (fun q => y ((nI_eq (by omega) (by omega)).mp q)), bNe_nextOnWay_52 ht, nI_1, if_neg (fun q => y q.2.1)]
      exact IH
    rw [ite_nn (by rw [y]), bNe_nextOnWay_32 ht, mOut_f (n := k) (by omega) (by omega), nI_clamp (n := k) (by omega), p4, r2, if_neg (show ¬ false = true by decide), Ne_way h (by omega) hh, tl_s, bNe_nextOnWay_44 ht]
    by_cases x : nI (M (rT c k) home) = lb
    · rw [ite_nn x, bNe_nextOnWay_49 ht, if_pos ⟨mz, y, x⟩]
    · rw [if_pos x, bNe_nextOnWay_52 ht, nI_1, if_neg (fun q => x q.2.2)]
      exact IH
theorem nwI_fN {c : Nat → Int32} {M : Nat → Nat → Nat} {nk home a r : Nat} (hM : ∀ u v, M u v ≤ 1000) (hr : r < 2 ^ 31) : ∀ j k, fN (fun k => rMd c k && decide (rG c k = a) && decide (M (rT c k) home = r)) j k < k + j → nwI c M nk home a (nI r) j k = nI (fN (fun k => rMd c k && decide (rG c k = a) && decide (M (rT c k) home = r)) j k)
  | 0, k, h => absurd h (by rw [fN]; omega)
  | j + 1, k, h => by
    rw [fN] at h ⊢
    rw [nwI]
    have m1 := hM (rT c k) home
    have eqv : nI (M (rT c k) home) = nI r ↔ M (rT c k) home = r := nI_eq (by omega) hr
    by_cases z : rMd c k = true ∧ rG c k = a ∧ M (rT c k) home = r
    · rw [if_pos ⟨z.1, z.2.1, eqv.mpr z.2.2⟩, if_pos (by simp [z.1, z.2.1, z.2.2])]
    · have z' : ¬ (rMd c k && decide (rG c k = a) && decide (M (rT c k) home = r)) = true := fun q => z (by simpa [and_assoc] using q)
      rw [if_neg z'] at h ⊢
      rw [if_neg (fun q => z ⟨q.1, q.2.1, eqv.mp q.2.2⟩)]
      exact nwI_fN hM hr j (k + 1) (by omega)
