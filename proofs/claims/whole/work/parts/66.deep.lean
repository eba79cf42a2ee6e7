/-! deep, depth -/
def mx (a b : Nat) : Nat := if a < b then b else a
theorem mx_i {a b : Nat} (ha : a < 2 ^ 31) (hb : b < 2 ^ 31) : (if nI a < nI b then nI b else nI a) = nI (mx a b) := by
  unfold mx
  by_cases h : a < b
  · rw [if_pos (nI_lt h hb), if_pos h]
  · rw [if_neg (nI_nlt (by omega) ha), if_neg h]
theorem mx_le {a b n : Nat} (ha : a ≤ n) (hb : b ≤ n) : mx a b ≤ n := by unfold mx; split <;> assumption
theorem nI_g0 {n : Nat} (h0 : 0 < n) (h : n < 2 ^ 31) : (0 : Int32) < nI n := nI_lt (a := 0) h0 h
theorem nI_ng0 {n : Nat} (h0 : n = 0) : ¬ (0 : Int32) < nI n := by rw [h0]; decide
def rM (c : Nat → Int32) (x g : Int32) (T : Nat → Nat) : Nat → Nat
  | 0 => 0
  | i + 1 => if c (82 + 6 * i + 5) = 0 ∧ c (82 + 6 * i + 1) = x ∧ c (82 + 6 * i + 3) = g then mx (rM c x g T i) (T i) else rM c x g T i
def mT (c : Nat → Int32) (x : Int32) (T : Nat → Nat) : Nat → Nat
  | 0 => 0
  | i + 1 => if c (82 + 6 * i + 5) = 0 ∧ c (82 + 6 * i + 1) = x then mx (mT c x T i) (T i) else mT c x T i
/-- one deeper than a; without, d -/
def dq (d a : Nat) : Nat := if 0 < a then a + 1 else d
def dv (c : Nat → Int32) (T : Nat → Nat) (k : Nat) : Nat := if c (82 + 6 * k + 5) = 0 then dq (if c (82 + 6 * k + 2) = c (34 + (c (82 + 6 * k + 1)).toNatClampNeg) then 1 else 0) (rM c (c (82 + 6 * k + 1)) (c (82 + 6 * k + 2)) T k) else 0
def dT (c : Nat → Int32) : Nat → Nat → Nat
  | 0 => fun _ => 0
  | k + 1 => fun i => if i = k then dv c (dT c k) k else dT c k i
def dF (c : Nat → Int32) (k : Nat) : Nat := dv c (dT c k) k
theorem dT_at {c : Nat → Int32} : ∀ k i, i < k → dT c k i = dF c i
  | 0, i, h => absurd h (by omega)
  | k + 1, i, h => by
    rw [dT]
    dsimp only
    by_cases e : i = k
    · rw [if_pos e, e]; rfl
    · rw [if_neg e]; exact dT_at k i (by omega)
theorem rM_c {c : Nat → Int32} {x g : Int32} {T U : Nat → Nat} : ∀ k, (∀ i, i < k → T i = U i) → rM c x g T k = rM c x g U k
  | 0, _ => rfl
  | k + 1, h => by rw [rM, rM, rM_c k (fun i hi => h i (by omega)), h k (by omega)]
theorem dF_e {c : Nat → Int32} {k : Nat} : dF c k = dv c (dF c) k := by
  show dv c (dT c k) k = _
  unfold dv
  rw [rM_c k (fun i hi => dT_at k i hi)]
theorem rM_b {c : Nat → Int32} {x g : Int32} {T : Nat → Nat} : ∀ k, (∀ i, i < k → T i ≤ i + 1) → rM c x g T k ≤ k
  | 0, _ => Nat.le_refl 0
  | k + 1, h => by
    rw [rM]
    have := rM_b (c := c) (x := x) (g := g) k (fun i hi => h i (by omega))
    split
    · exact mx_le (by omega) (h k (by omega))
    · omega
theorem mT_b {c : Nat → Int32} {x : Int32} {T : Nat → Nat} : ∀ k, (∀ i, i < k → T i ≤ i + 1) → mT c x T k ≤ k
  | 0, _ => Nat.le_refl 0
  | k + 1, h => by
    rw [mT]
    have := mT_b (c := c) (x := x) k (fun i hi => h i (by omega))
    split
    · exact mx_le (by omega) (h k (by omega))
    · omega
theorem dF_bk {c : Nat → Int32} : ∀ n k, k < n → dF c k ≤ k + 1
  | 0, k, h => absurd h (by omega)
  | n + 1, k, h => by
    have := rM_b (c := c) (T := dF c) (x := c (82 + 6 * k + 1)) (g := c (82 + 6 * k + 2)) k (fun i hi => dF_bk n i (by omega))
    rw [dF_e, dv]
    split
    · unfold dq
      split
      · omega
      · split <;> omega
    · omega
theorem dF_b {c : Nat → Int32} (k : Nat) : dF c k ≤ k + 1 := dF_bk (k + 1) k (by omega)
theorem rM_f {c : Nat → Int32} {x g : Int32} (k : Nat) : rM c x g (dF c) k ≤ k := rM_b k (fun i _ => dF_b i)
theorem mT_f {c : Nat → Int32} {x : Int32} (k : Nat) : mT c x (dF c) k ≤ k := mT_b k (fun i _ => dF_b i)
def SDp (t o k : Nat) : Bool := o == t + 10 || o == t + 11
theorem SDp_T {t j k : Nat} (h1 : j ≠ 10) (h2 : j ≠ 11) : SDp t (t + j) k = false := by
  simp only [SDp, Bool.or_eq_false_iff, beq_eq_false_iff_ne, ne_eq]; omega
theorem Pr_deep_loop {E : mEn} {d : Nat} {Q : mPost} {σ : mSt} {t l np nl nk bk : Nat} {c : Nat → Int32} (ht : isT t) (hl : l < nl) (hnl : nl ≤ 8) (hnp : np ≤ 8) (hk : σ.1 (t + 3) 8 = nI nk) (hn : nk ≤ 40) (hP : ∀ k, k < nk → PRel σ t c np nl k) (hb : c (34 + l) = nI bk) (hbk : bk < np)
    (hQ : ∀ υ, qt (SDp t) σ υ → (∀ i, i < nk → c (82 + 6 * i + 5) = 0 → c (82 + 6 * i + 1) = nI l → υ.1 (t + 10) i = nI (dF c i)) → Q (some (.int (nI (mT c (nI l) (dF c) nk)))) υ) : ∀ (j k : Nat) (τ : mSt) (u5 u6 : Value), k + j = nk → qt (SDp t) σ τ → (∀ p, p < 8 → τ.1 (t + 11) p = nI (rM c (nI l) (nI p) (dF c) k)) → (∀ i, i < k → c (82 + 6 * i + 5) = 0 → c (82 + 6 * i + 1) = nI l → τ.1 (t + 10) i = nI (dF c i)) → WP E d mPr_deepest 13 [.ref (t + 3), .int (nI l), .int (nI bk), .int (nI (mT c (nI l) (dF c) k)), .int (nI k), u5, u6] [] τ Q
  | 0, k, τ, u5, u6, e, q, h1, h2 => by
    have e2 : k = nk := by omega
    subst e2
    rw [bPr_deepest_13 ht, (q _ _ (SDp_T (by omega) (by omega))).1, hk, if_pos (Int32.le_refl _), bPr_deepest_137 ht]
    exact hQ τ q h2
  | j + 1, k, τ, u5, u6, e, q, h1, h2 => by
    have T : ∀ i x, i ≠ 10 → i ≠ 11 → τ.1 (t + i) x = σ.1 (t + i) x := fun i x a b => (q _ _ (SDp_T a b)).1
    obtain ⟨⟨p1, -⟩, ⟨p2, -⟩, ⟨p3, a, ha, p3'⟩, ⟨p4, b, hb', p4'⟩, -, ⟨p6, p6'⟩, -⟩ := hP k (by omega)
    have t5 : τ.1 (t + 5) k = c (82 + 6 * k + 1) := (T 5 k (by omega) (by omega)).trans p2
    have t6 : τ.1 (t + 6) k = nI a := (T 6 k (by omega) (by omega)).trans (p3.trans p3')
    have t7 : τ.1 (t + 7) k = nI b := (T 7 k (by omega) (by omega)).trans (p4.trans p4')
    have t9 : τ.1 (t + 9) k = c (82 + 6 * k + 5) := (T 9 k (by omega) (by omega)).trans p6
    have mk : mOut (nI k) 40 = false := mOut_f (by omega) (by omega)
    have ck : (nI k).toNatClampNeg = k := nI_clamp (by omega)
    rw [bPr_deepest_13 ht, T 3 8 (by omega) (by omega), hk, if_neg (nI_ge (by omega) (by omega)), bPr_deepest_22 ht, mk, ck, t9, if_neg (by decide)]
    have SK : ∀ (v5 v6 : Value), ¬ (c (82 + 6 * k + 5) = 0 ∧ c (82 + 6 * k + 1) = nI l) → WP E d mPr_deepest 131 [.ref (t + 3), .int (nI l), .int (nI bk), .int (nI (mT c (nI l) (dF c) k)), .int (nI k), v5, v6] [] τ Q := fun v5 v6 h => by
      rw [bPr_deepest_131 ht, nI_1]
      have em : mT c (nI l) (dF c) (k + 1) = mT c (nI l) (dF c) k := by rw [mT, if_neg h]
      rw [← em]
      refine Pr_deep_loop ht hl hnl hnp hk hn hP hb hbk hQ j (k + 1) τ _ _ (by omega) q (fun p hp => ?_) (fun i hi g1 g2 => ?_)
      · rw [rM, if_neg (fun g => h ⟨g.1, g.2.1⟩)]; exact h1 p hp
      · by_cases e : i = k
        · rw [e] at g1 g2; exact absurd ⟨g1, g2⟩ h
        · exact h2 i (by omega) g1 g2
    by_cases z1 : c (82 + 6 * k + 5) = 0
    rotate_left
    · rw [if_pos z1]
      exact SK _ _ (fun g => z1 g.1)
    rw [if_neg (fun g => g z1), bPr_deepest_32 ht, mk, ck, t5, if_neg (by decide)]
    by_cases z2 : c (82 + 6 * k + 1) = nI l
    rotate_left
    · rw [if_neg z2, bPr_deepest_43 ht]
      exact SK _ _ (fun g => z2 g.2)
    have A := rM_f (c := c) (x := nI l) (g := nI a) k
    have dk := dF_b (c := c) k
    have mk' := mT_f (c := c) (x := nI l) k
    have dFk : dF c k = dq (if nI a = nI bk then 1 else 0) (rM c (nI l) (nI a) (dF c) k) := by
      rw [dF_e, dv, if_pos z1, z2, p3', nI_clamp (by omega), hb]
    have X : ∀ u6 : Value, WP E d mPr_deepest 46 [.ref (t + 3), .int (nI l), .int (nI bk), .int (nI (mT c (nI l) (dF c) k)), .int (nI k), u5, u6] [] τ Q = WP E d mPr_deepest 84 [.ref (t + 3), .int (nI l), .int (nI bk), .int (nI (mT c (nI l) (dF c) k)), .int (nI k), .int (nI (rM c (nI l) (nI a) (dF c) k)), u6] [.int (nI (dF c k))] τ Q := fun u6 => by
      rw [bPr_deepest_46 ht, mk, ck, t6, mOut_f (by omega) (by omega), nI_clamp (by omega), h1 a (by omega), if_neg (by decide), if_neg (by decide), dFk, dq]
      by_cases y : 0 < rM c (nI l) (nI a) (dF c) k
      · rw [if_pos (nI_g0 y (by omega)), if_pos y, bPr_deepest_76 ht, nI_1]
      · rw [if_neg (nI_ng0 (by omega)), if_neg y, bPr_deepest_65 ht, mk, ck, t6, if_neg (by decide)]
        have y0 : rM c (nI l) (nI a) (dF c) k = 0 := by omega
        by_cases x : nI a = nI bk
        · rw [ite_nn x, bPr_deepest_76 ht, if_pos x, y0]; rfl
        · rw [if_pos x, bPr_deepest_83 ht, if_neg x]; rfl
    have mb : mOut (nI b) 8 = false := mOut_f (by omega) (by omega)
    have cb : (nI b).toNatClampNeg = b := nI_clamp (by omega)
    have r1 : (sI τ (t + 10) k (nI (dF c k))).1 (t + 7) k = nI b := by rw [sI_rd, if_neg (by omega)]; exact t7
    have r2 : (sI τ (t + 10) k (nI (dF c k))).1 (t + 11) b = nI (rM c (nI l) (nI b) (dF c) k) := by rw [sI_rd, if_neg (by omega)]; exact h1 b (by omega)
    have B := rM_f (c := c) (x := nI l) (g := nI b) k
    rw [if_pos z2, X, bPr_deepest_84 ht, mk, ck, r1, mb, cb, r2, mx_i (by omega) (by omega), if_neg (by decide), if_neg (by decide), if_neg (by decide), if_neg (by decide), if_neg (by decide), bPr_deepest_124 ht, mx_i (by omega) (by omega), bPr_deepest_131 ht, nI_1]
    have em : mT c (nI l) (dF c) (k + 1) = mx (mT c (nI l) (dF c) k) (dF c k) := by rw [mT, if_pos ⟨z1, z2⟩]
    rw [← em]
    refine Pr_deep_loop ht hl hnl hnp hk hn hP hb hbk hQ j (k + 1) _ _ _ (by omega) (qt_sI (qt_sI q (by simp [SDp])) (by simp [SDp])) (fun p hp => ?_) (fun i hi g1 g2 => ?_)
    · rw [sI_rd, rM]
      by_cases y : p = b
      · subst y
        rw [if_pos ⟨rfl, rfl⟩, if_pos ⟨z1, z2, p4'⟩]
      · rw [if_neg (fun g => y g.2), if_neg (fun g => y ((nI_eq (by omega) (by omega)).mp (p4'.symm.trans g.2.2)).symm), sI_rd, if_neg (by omega)]; exact h1 p hp
    · rw [sI_rd, if_neg (by omega), sI_rd]
      by_cases e : i = k
      · rw [if_pos ⟨rfl, e⟩, e]
      · rw [if_neg (fun g => e g.2)]; exact h2 i (by omega) g1 g2
theorem Pr_deepest {E : mEn} {d : Nat} {Q : mPost} {σ : mSt} {t l np no nl nk dy : Nat} {c : Nat → Int32} {w : Nat → Int64} {u3 u4 u5 u6 : Value} (ht : isT t) (hT : TRel σ t c w np no nl nk dy) (hl : l < nl) (hQ : ∀ υ, qt (SDp t) σ υ → (∀ i, i < nk → c (82 + 6 * i + 5) = 0 → c (82 + 6 * i + 1) = nI l → υ.1 (t + 10) i = nI (dF c i)) → Q (some (.int (nI (mT c (nI l) (dF c) nk)))) υ) : WP E (d + 1) mPr_deepest 0 [.ref (t + 3), .int (nI l), .int (c (34 + l)), u3, u4, u5, u6] [] σ Q := by
  obtain ⟨⟨b1, b2, b3, b4, b5⟩, ⟨t1, c1⟩, ⟨t2, c2⟩, ⟨t3, c3⟩, ⟨t4, c4⟩, ⟨t5, c5⟩, c6, gP, gO, gL, gB, gK, -⟩ := id hT
  obtain ⟨bk, hbk, ebk⟩ := (gL l hl).1.2
  have hlt : t + 11 < 1000 := by rcases ht with rfl | rfl | rfl | rfl | rfl <;> omega
  rw [bPr_deepest_0 ht, Ar_fill (shT_11 ht) hlt (by omega), tl_n, bPr_deepest_8 ht, ebk, show (0 : Int32) = nI (mT c (nI l) (dF c) 0) from rfl]
  refine Pr_deep_loop (c := c) ht hl b3 b1 t4 b4 gK ebk hbk hQ nk 0 _ _ _ (by omega) (qt_fI qt_rf (fun b => by simp [SDp])) (fun p hp => ?_) (fun i hi => absurd hi (by omega))
  unfold fillI
  dsimp only
  rw [if_pos (by omega)]; rfl
def S174 (o k : Nat) : Bool := o == 174
theorem mx_0 {a : Nat} : mx a 0 = a := by unfold mx; rw [if_neg (by omega)]
theorem dq_mx {d a T : Nat} (hd : d ≤ 1) (hT : 0 < T) : mx (dq d a) (T + 1) = dq d (mx a T) := by
  unfold mx dq
  (repeat' split) <;> omega
theorem Mo_deep_in {E : mEn} {d : Nat} {Q : mPost} {l k : Nat} {c : Nat → Int32} (hl : l < 8) (hk : k < 40) : ∀ (j i : Nat) (τ : mSt), i + j = k → τ.1 171 = c → (∀ x, x < k → τ.1 174 x = nI (dF c x)) → τ.1 174 k = nI (dq (if c (82 + 6 * k + 2) = c (34 + l) then 1 else 0) (rM c (nI l) (c (82 + 6 * k + 2)) (dF c) i)) →
    (∀ υ a3, qt S174 τ υ → (∀ x, x < k → υ.1 174 x = nI (dF c x)) → υ.1 174 k = nI (dq (if c (82 + 6 * k + 2) = c (34 + l) then 1 else 0) (rM c (nI l) (c (82 + 6 * k + 2)) (dF c) k)) → WP E (d + 3) mMo_deepens 155 [.ref 166, .int (nI k), .int (nI l), .int a3] [] υ Q) → WP E (d + 3) mMo_deepens 78 [.ref 166, .int (nI k), .int (nI l), .int (nI i)] [] τ Q
  | 0, i, τ, e, hc, h1, h2, hQ => by
    have e2 : i = k := by omega
    subst e2
    rw [bMo_deepens_78, if_pos (Int32.le_refl _)]
    exact hQ τ _ qt_rf h1 h2
  | j + 1, i, τ, e, hc, h1, h2, hQ => by
    have hi : i < 40 := by omega
    have R := rM_f (c := c) (x := nI l) (g := c (82 + 6 * k + 2)) i
    have D := dF_b (c := c) i
    rw [bMo_deepens_78, if_neg (nI_ge (by omega) (by omega)), bMo_deepens_83, Mo_isOfLoaf hi, tl_s, bMo_deepens_89, hc]
    have SK : rM c (nI l) (c (82 + 6 * k + 2)) (dF c) (i + 1) = rM c (nI l) (c (82 + 6 * k + 2)) (dF c) i → WP E (d + 3) mMo_deepens 149 [.ref 166, .int (nI k), .int (nI l), .int (nI i)] [] τ Q := fun h => by
      rw [bMo_deepens_149, nI_1]
      exact Mo_deep_in hl hk j (i + 1) τ (by omega) hc h1 (by rw [h]; exact h2) hQ
    by_cases z : c (82 + 6 * i + 5) = 0 ∧ c (82 + 6 * i + 1) = nI l
    rotate_left
    · rw [b2i_f z, if_pos rfl]
      exact SK (by rw [rM, if_neg (fun g => z ⟨g.1, g.2.1⟩)])
    rw [b2i_t z, if_neg i10, bMo_deepens_92, Mo_part, tl_s, bMo_deepens_100, nI_add, mOut_f (by omega) (by omega), nI_clamp (by omega), if_neg (by decide), Mo_part, tl_s, bMo_deepens_111, nI_add, mOut_f (by omega) (by omega), nI_clamp (by omega), if_neg (show ¬ false = true by decide), hc]
    by_cases y : c (82 + 6 * i + 3) = c (82 + 6 * k + 2)
    rotate_left
    · rw [if_pos y]
      exact SK (by rw [rM, if_neg (fun g => y g.2.2)])
    rw [ite_nn y, bMo_deepens_117, mOut_f (by omega) (by omega), nI_clamp (by omega), h1 i (by omega), if_neg (by decide)]
    by_cases x : dF c i = 0
    · rw [if_pos (by rw [x]; decide)]
      exact SK (by rw [rM, if_pos ⟨z.1, z.2, y⟩, x, mx_0])
    rw [if_neg (nI_nle (by omega) (by omega)), bMo_deepens_126, mOut_f (by omega) (by omega), nI_clamp (by omega), mOut_f (by omega) (by omega), nI_clamp (by omega), h1 i (by omega), h2, nI_1, if_neg (by decide), if_neg (by decide), if_neg (by decide), bMo_deepens_149, nI_1]
    have hd1 : (if c (82 + 6 * k + 2) = c (34 + l) then 1 else 0) ≤ 1 := by split <;> omega
    have hd2 : dq (if c (82 + 6 * k + 2) = c (34 + l) then 1 else 0) (rM c (nI l) (c (82 + 6 * k + 2)) (dF c) i) ≤ 50 := by unfold dq; split <;> omega
    rw [mx_i (by omega) (by omega), dq_mx hd1 (by omega)]
    refine Mo_deep_in hl hk j (i + 1) _ (by omega) ((sI_o (by omega)).trans hc) (fun w hw => ?_) ?_ (fun υ a3 q => hQ υ a3 (qt_tr (qt_sI qt_rf rfl) q))
    · rw [sI_rd, if_neg (by omega)]; exact h1 w hw
    · have hr : rM c (nI l) (c (82 + 6 * k + 2)) (dF c) (i + 1) = mx (rM c (nI l) (c (82 + 6 * k + 2)) (dF c) i) (dF c i) := by rw [rM, if_pos ⟨z.1, z.2, y⟩]
      rw [sI_rd, if_pos ⟨rfl, rfl⟩, hr]
theorem Mo_deep_loop {E : mEn} {d : Nat} {Q : mPost} {np nl nk : Nat} {c : Nat → Int32} {σ : mSt} (hnl : nl ≤ 8) (c3 : c 3 = nI nk) (hn : nk ≤ 40) (hL : ∀ k, k < nk → ∃ l, l < nl ∧ c (82 + 6 * k + 1) = nI l) : ∀ (j k : Nat) (τ : mSt) (u2 u3 : Value), k + j = nk → τ.1 171 = c → (∀ x, x < k → τ.1 174 x = nI (dF c x)) →
    (∀ υ, qt S174 τ υ → (∀ x, x < nk → υ.1 174 x = nI (dF c x)) → Q none υ) → WP E (d + 3) mMo_deepens 2 [.ref 166, .int (nI k), u2, u3] [] τ Q
  | 0, k, τ, u2, u3, e, hc, h1, hQ => by
    have e2 : k = nk := by omega
    subst e2
    rw [bMo_deepens_2, if_neg (by decide), hc, c3, if_pos (Int32.le_refl _), bMo_deepens_161]
    exact hQ τ qt_rf h1
  | j + 1, k, τ, u2, u3, e, hc, h1, hQ => by
    obtain ⟨l, hl, el⟩ := hL k (by omega)
    have hk : k < 40 := by omega
    have hc1 : (sI τ 174 k 0).1 171 = c := (sI_o (by omega)).trans hc
    rw [bMo_deepens_2, if_neg (by decide), hc, c3, if_neg (nI_ge (by omega) (by omega)), bMo_deepens_12, mOut_f (by omega) (by omega), nI_clamp (by omega), if_neg (by decide), Mo_part, tl_s, bMo_deepens_27, nI_1, mOut_f (by omega) (by omega), nI_clamp (by omega), if_neg (by decide), Mo_isMade hk, tl_s, bMo_deepens_36, hc1, el]
    by_cases z : c (82 + 6 * k + 5) = 0
    rotate_left
    · rw [b2i_f z, ite_nn rfl, bMo_deepens_39, bMo_deepens_155, nI_1]
      refine Mo_deep_loop (np := np) (σ := σ) hnl c3 hn hL j (k + 1) _ _ _ (by omega) hc1 (fun x hx => ?_) (fun υ q => hQ υ (qt_tr (qt_sI qt_rf rfl) q))
      rw [sI_rd]
      by_cases y : x = k
      · rw [if_pos ⟨rfl, y⟩, y, dF_e, dv, if_neg z]; rfl
      · rw [if_neg (fun g => y g.2)]; exact h1 x (by omega)
    have X : WP E (d + 3) mMo_deepens 42 [.ref 166, .int (nI k), .int (nI l), u3] [] (sI τ 174 k 0) Q = WP E (d + 3) mMo_deepens 78 [.ref 166, .int (nI k), .int (nI l), .int (nI 0)] [] (sI (sI τ 174 k 0) 174 k (nI (dq (if c (82 + 6 * k + 2) = c (34 + l) then 1 else 0) (rM c (nI l) (c (82 + 6 * k + 2)) (dF c) 0)))) Q := by
      rw [bMo_deepens_42, Mo_part, tl_s, bMo_deepens_55, nI_add, mOut_f (by omega) (by omega), nI_clamp (by omega), nI_add, mOut_f (by omega) (by omega), nI_clamp (by omega), if_neg (by decide), if_neg (by decide), hc1]
      by_cases y : c (82 + 6 * k + 2) = c (34 + l)
      · rw [ite_nn y, if_pos y, bMo_deepens_70, bMo_deepens_75, mOut_f (by omega) (by omega), nI_clamp (by omega), if_neg (by decide)]; rfl
      · rw [if_pos y, if_neg y, bMo_deepens_74, bMo_deepens_75, mOut_f (by omega) (by omega), nI_clamp (by omega), if_neg (by decide)]; rfl
    rw [b2i_t z, if_pos i10, X]
    refine Mo_deep_in (c := c) (by omega) hk k 0 _ (by omega) ((sI_o (by omega)).trans hc1) (fun x hx => ?_) ?_ (fun υ a3 q g1 g2 => ?_)
    · rw [sI_rd, if_neg (by omega), sI_rd, if_neg (by omega)]; exact h1 x hx
    · rw [sI_rd, if_pos ⟨rfl, rfl⟩]
    · rw [bMo_deepens_155, nI_1]
      refine Mo_deep_loop (np := np) (σ := σ) hnl c3 hn hL j (k + 1) _ _ _ (by omega) ((funext fun x => (q 171 x rfl).1).trans ((sI_o (by omega)).trans hc1)) (fun x hx => ?_) (fun ω q2 => hQ ω (qt_tr (qt_sI (qt_sI qt_rf rfl) rfl) (qt_tr q q2)))
      by_cases y : x = k
      · rw [y, g2, dF_e, dv, if_pos z, el, nI_clamp (by omega)]
      · exact g1 x (by omega)
theorem Mo_deepens {E : mEn} {d : Nat} {Q : mPost} {σ σ0 : mSt} {np no nl nk dy : Nat} {c : Nat → Int32} {w : Nat → Int64} {u1 u2 u3 : Value} (hT : TRel σ0 10 c w np no nl nk dy) (hc : σ.1 171 = c) (hQ : ∀ υ, qt S174 σ υ → (∀ x, x < nk → υ.1 174 x = nI (dF c x)) → Q none υ) : WP E (d + 3) mMo_deepens 0 [.ref 166, u1, u2, u3] [] σ Q := by
  obtain ⟨⟨b1, b2, b3, b4, b5⟩, ⟨t1, c1⟩, ⟨t2, c2⟩, ⟨t3, c3⟩, ⟨t4, c4⟩, ⟨t5, c5⟩, c6, gP, gO, gL, gB, gK, -⟩ := id hT
  rw [bMo_deepens_0]
  exact Mo_deep_loop (np := np) (σ := σ) b3 c4 b4 (fun k hk => (gK k hk).2.1.2) nk 0 σ _ _ (by omega) hc (fun x hx => absurd hx (by omega)) hQ
theorem Mo_deep2_loop {E : mEn} {d : Nat} {Q : mPost} {l nk : Nat} {c : Nat → Int32} {τ : mSt} (c3 : c 3 = nI nk) (hn : nk ≤ 40) (hc : τ.1 171 = c) (h1 : ∀ x, x < nk → τ.1 174 x = nI (dF c x)) : ∀ (j k : Nat), k + j = nk → WP E (d + 3) mMo_deep 32 [.ref 166, .int (nI l), .int (nI (mT c (nI l) (dF c) k)), .int (nI k)] [] τ Q = Q (some (.int (nI (mT c (nI l) (dF c) nk)))) τ
  | 0, k, e => by
    have e2 : k = nk := by omega
    subst e2
    rw [bMo_deep_32, if_neg (by decide), hc, c3, if_pos (Int32.le_refl _), bMo_deep_68]
  | j + 1, k, e => by
    have IH := Mo_deep2_loop (E := E) (d := d) (Q := Q) (l := l) c3 hn hc h1 j (k + 1) (by omega)
    have D := dF_b (c := c) k
    have M := mT_f (c := c) (x := nI l) k
    rw [bMo_deep_32, if_neg (by decide), hc, c3, if_neg (nI_ge (by omega) (by omega)), bMo_deep_42, Mo_isOfLoaf (show k < 40 by omega), tl_s, bMo_deep_48, hc]
    by_cases z : c (82 + 6 * k + 5) = 0 ∧ c (82 + 6 * k + 1) = nI l
    · rw [b2i_t z, if_neg i10, bMo_deep_51, mOut_f (by omega) (by omega), nI_clamp (by omega), h1 k (by omega), if_neg (by decide), mx_i (by omega) (by omega), bMo_deep_62, nI_1, ← IH, mT, if_pos z]
    · rw [b2i_f z, if_pos rfl, bMo_deep_62, nI_1, ← IH, mT, if_neg z]
theorem S174_SQ {o k : Nat} (h : S174 o k = true) : SQ o k = true := by
  simp only [S174, beq_iff_eq] at h
  subst h; rfl
theorem SDp_SQ {o k : Nat} (h : SDp 10 o k = true) : SQ o k = true := by
  simp only [SDp, Bool.or_eq_true, beq_iff_eq] at h
  rcases h with rfl | rfl <;> rfl
theorem P_deep {E : mEn} {d : Nat} {σ : mSt} {a : Int32} {u1 u2 : Value} (hI : Inv σ) : pairI E (d + 5) mPb_deep mMo_deep [.ref 0, .int a] [.ref 166, .int a, u1, u2] σ := by
  obtain ⟨np, no, nl, nk, dy, hT⟩ := Inv_town hI
  obtain ⟨⟨b1, b2, b3, b4, b5⟩, ⟨t1, c1⟩, ⟨t2, c2⟩, ⟨t3, c3⟩, ⟨t4, c4⟩, ⟨t5, c5⟩, c6, gP, gO, gL, gB, gK, -⟩ := id hT
  have hq : ∀ τ : mSt, qt SQ σ τ → (sI (sI τ 166 1 0) 166 0 0).1 171 = σ.1 171 := fun τ q => funext fun k => (q 171 k rfl).1
  have mp := @mpq E σ np c1 b1
  have ml := @mlq E σ nl c3 b3
  have mk := @mkq E σ nk c4 b4
  by_cases ha : mOut a nl = false
  rotate_left
  · refine pairI_q hI (-1) (nI 2) (fun Q k => ?_) (fun τ q Q k => ?_)
    · simp only [bPb_deep_0, bPb_deep_8, bPb_deep_11, bPb_deep_16, bPb_deep_17, bPb_deep_38, bPb_deep_41, Tw_hasPerson T10 t1 b1, Tw_hasLoaf T10 t3 b3, Pr_has T10 t4 b4, tl_s, bPb_refuse_0, b2i_f ha, b2i_T, b2i_F, i10, not_true_eq_false, not_false_eq_true, and_self, and_true, true_and, and_false, false_and, or_true, true_or, or_false, false_or, or_self, if_true, if_false, ite_self, eq_self, Bool.false_eq_true, Bool.true_eq_false]
      exact k _ (by repeat' (first | exact qt_rf | assumption | refine qt_sI ?_ rfl | refine qt_sL ?_ rfl)) rfl
    · simp only [bMo_deep_0, bMo_deep_15, bMo_deep_18, bMo_deep_23, bMo_deep_24, bMo_deep_28, bMo_deep_42, bMo_deep_48, bMo_deep_51, bMo_deep_62, bMo_deep_68, mp τ q, ml τ q, mk τ q, tl_s, bMo_refuse_0, b2i_f ha, b2i_T, b2i_F, i10, not_true_eq_false, not_false_eq_true, and_self, and_true, true_and, and_false, false_and, or_true, true_or, or_false, false_or, or_self, if_true, if_false, ite_self, eq_self, Bool.false_eq_true, Bool.true_eq_false]
      exact k _ (by repeat' (first | exact qt_rf | assumption | refine qt_sI ?_ rfl | refine qt_sL ?_ rfl)) rfl rfl
  have ha' := ha
  obtain ⟨l, hl, rfl⟩ := mOut_n ha
  refine pairI_q hI (nI (mT (σ.1 171) (nI l) (dF (σ.1 171)) nk)) 0 (fun Q k => ?_) (fun τ q Q k => ?_)
  · rw [bPb_deep_0, Tw_hasLoaf T10 t3 b3, tl_s, bPb_deep_8, b2i_t ha', if_pos i10, bPb_deep_17, mOut_f (by omega) (by omega), nI_clamp (by omega), if_neg (by decide), show σ.1 29 l = σ.1 171 (34 + l) from (gL l hl).1.1]
    refine Pr_deepest (t := 10) T10 hT hl (fun υ q g => ?_)
    rw [tl_s, bPb_deep_38, bPb_answer_0, tl_s, bPb_deep_41]
    exact k _ (qt_sI (qt_mono q (fun o k => SDp_SQ)) rfl) rfl
  · rw [bMo_deep_0, ml τ q, tl_s, bMo_deep_15, b2i_t ha', if_pos i10, bMo_deep_24]
    refine Mo_deepens (σ := sI (sI τ 166 1 0) 166 0 0) hT (hq τ q) (fun υ q2 g => ?_)
    rw [tl_n, bMo_deep_28]
    refine Eq.mpr (Mo_deep2_loop (Q := Q) (l := l) (c := σ.1 171) c4 b4 ((funext fun x => (q2 171 x rfl).1).trans (hq τ q)) g nk 0 (by omega)) ?_
    exact k _ (qt_tr (τ := sI (sI τ 166 1 0) 166 0 0) (by repeat' (first | exact qt_rf | assumption | refine qt_sI ?_ rfl | refine qt_sL ?_ rfl)) (qt_mono q2 (fun o k => S174_SQ))) (q2 166 0 rfl).1 (q2 0 10 rfl).1
theorem P_depth {E : mEn} {d : Nat} {σ : mSt} {a : Int32} {u1 u2 : Value} (hI : Inv σ) : pairI E (d + 5) mPb_depth mMo_depth [.ref 0, .int a, u1, u2] [.ref 166, .int a] σ := by
  obtain ⟨np, no, nl, nk, dy, hT⟩ := Inv_town hI
  obtain ⟨⟨b1, b2, b3, b4, b5⟩, ⟨t1, c1⟩, ⟨t2, c2⟩, ⟨t3, c3⟩, ⟨t4, c4⟩, ⟨t5, c5⟩, c6, gP, gO, gL, gB, gK, -⟩ := id hT
  have hq : ∀ τ : mSt, qt SQ σ τ → (sI (sI τ 166 1 0) 166 0 0).1 171 = σ.1 171 := fun τ q => funext fun k => (q 171 k rfl).1
  have mp := @mpq E σ np c1 b1
  have ml := @mlq E σ nl c3 b3
  have mk := @mkq E σ nk c4 b4
  by_cases ha : mOut a nk = false
  rotate_left
  · refine pairI_q hI (-1) (nI 2) (fun Q k => ?_) (fun τ q Q k => ?_)
    · rw [bPb_depth_0]
      refine Eq.mpr (Pr_has (t := 10) T10 t4 b4) ?_
      rw [tl_s, bPb_depth_13, b2i_f ha, ite_nn rfl, bPb_depth_16, bPb_refuse_0, tl_s, bPb_depth_21]
      exact k _ (by repeat' (first | exact qt_rf | assumption | refine qt_sI ?_ rfl | refine qt_sL ?_ rfl)) rfl
    · rw [bMo_depth_0, mk τ q, tl_s, bMo_depth_15, b2i_f ha, ite_nn rfl, bMo_depth_18, bMo_refuse_0, tl_s, bMo_depth_23]
      exact k _ (by repeat' (first | exact qt_rf | assumption | refine qt_sI ?_ rfl | refine qt_sL ?_ rfl)) rfl rfl
  have ha' := ha
  obtain ⟨i, hi, rfl⟩ := mOut_n ha
  obtain ⟨-, ⟨p2, l, hl, p2'⟩, -, -, -, ⟨p6, -⟩, -⟩ := gK i hi
  refine pairI_q hI (nI (dF (σ.1 171) i)) 0 (fun Q k => ?_) (fun τ q Q k => ?_)
  · rw [bPb_depth_0]
    refine Eq.mpr (Pr_has (t := 10) T10 t4 b4) ?_
    rw [tl_s, bPb_depth_13, b2i_t ha', if_pos i10, bPb_depth_22, mOut_f (by omega) (by omega), nI_clamp (by omega), if_neg (by decide), show σ.1 15 i = nI l from p2.trans p2', Tw_bakerOf T10 t3 b3 hl (gL l hl), tl_s]
    show WP E (d + 5) mPb_depth 39 _ [_, _, _] σ Q
    rw [bPb_depth_39]
    refine Pr_deepest (t := 10) T10 hT hl (fun υ q g => ?_)
    have e9 : υ.1 19 i = σ.1 171 (82 + 6 * i + 5) := ((q 19 i rfl).1).trans p6
    rw [tl_s, bPb_depth_42, mOut_f (by omega) (by omega), nI_clamp (by omega), e9, if_neg (by decide)]
    by_cases z : σ.1 171 (82 + 6 * i + 5) = 0
    · rw [if_pos z, bPb_depth_57, mOut_f (by omega) (by omega), nI_clamp (by omega), if_neg (by decide), show υ.1 20 i = nI (dF (σ.1 171) i) from g i hi z p2', bPb_depth_63, bPb_answer_0, tl_s, bPb_depth_66]
      exact k _ (qt_sI (qt_mono q (fun o k => SDp_SQ)) rfl) rfl
    · rw [if_neg z, bPb_depth_53, bPb_depth_63, bPb_answer_0, tl_s, bPb_depth_66]
      have := k (sI υ 0 10 0) (qt_sI (qt_mono q (fun o k => SDp_SQ)) rfl) rfl
      rw [dF_e, dv, if_neg z] at this
      exact this
  · rw [bMo_depth_0, mk τ q, tl_s, bMo_depth_15, b2i_t ha', if_pos i10, bMo_depth_24]
    refine Mo_deepens (σ := sI (sI τ 166 1 0) 166 0 0) hT (hq τ q) (fun υ q2 g => ?_)
    rw [tl_n, bMo_depth_28, mOut_f (by omega) (by omega), nI_clamp (by omega), if_neg (by decide), g i hi]
    exact k _ (qt_tr (τ := sI (sI τ 166 1 0) 166 0 0) (by repeat' (first | exact qt_rf | assumption | refine qt_sI ?_ rfl | refine qt_sL ?_ rfl)) (qt_mono q2 (fun o k => S174_SQ))) (q2 166 0 rfl).1 (q2 0 10 rfl).1
