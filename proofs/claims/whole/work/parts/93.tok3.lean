/-! the reference's scanner -/
def lkf (T : Nat → Int32) (n i : Nat) : Int32 := if i < n then T i &&& nI 255 else 0
theorem Mo_look2 {E : mEn} {d : Nat} {Q : mPost} {τ : mSt} {T : Nat → Int32} {n i : Nat} (h7 : τ.1 170 = T) (h9 : τ.1 166 9 = nI n) (hn : n ≤ 900) (hi : i ≤ n) : WP E d mMo_look2 0 [.ref 166, .int (nI i)] [] τ Q = Q (some (.int (lkf T n i))) τ := by
  rw [bMo_look2_0, h9]
  unfold lkf
  by_cases z : i < n
  · rw [if_neg (nI_ge z (by omega)), bMo_look2_8, mOut_f (by omega) (by omega), nI_clamp (by omega), h7, if_neg (by decide), bMo_look2_22, if_pos z]
  · rw [if_pos (nI_le (by omega) (by omega)), bMo_look2_21, bMo_look2_22, if_neg z]
theorem Mo_isLetter {E : mEn} {d : Nat} {Q : mPost} {τ : mSt} {x : Int32} : WP E d mMo_isLetter 0 [.int x] [] τ Q = Q (some (.int (b2i (cL x = true)))) τ := by
  rw [bMo_isLetter_0, bMo_isLetter_6, bMo_isLetter_12, bMo_isLetter_16, bMo_isLetter_17 (Or.inl rfl), bMo_isLetter_17 (Or.inr rfl)]
  by_cases y : x < nI 97
  · rw [if_pos y, b2i_f (by simp [cL, y])]
  · rw [if_neg y]
    by_cases z : nI 122 < x
    · rw [if_pos z, b2i_f (by simp [cL, z])]
    · rw [if_neg z, b2i_t (by simp [cL, y, z])]
theorem Mo_isDigit {E : mEn} {d : Nat} {Q : mPost} {τ : mSt} {x : Int32} : WP E d mMo_isDigit 0 [.int x] [] τ Q = Q (some (.int (b2i (cD x = true)))) τ := by
  rw [bMo_isDigit_0, bMo_isDigit_6, bMo_isDigit_12, bMo_isDigit_16, bMo_isDigit_17 (Or.inl rfl), bMo_isDigit_17 (Or.inr rfl)]
  by_cases y : x < nI 48
  · rw [if_pos y, b2i_f (by simp [cD, y])]
  · rw [if_neg y]
    by_cases z : nI 57 < x
    · rw [if_pos z, b2i_f (by simp [cD, z])]
    · rw [if_neg z, b2i_t (by simp [cD, y, z])]
theorem Mo_isSignByte {E : mEn} {d : Nat} {Q : mPost} {τ : mSt} {x : Int32} : WP E d mMo_isSignByte 0 [.ref 166, .int x] [] τ Q = Q (some (.int (b2i (cS x = true)))) τ := by
  rw [bMo_isSignByte_0, bMo_isSignByte_6, bMo_isSignByte_12, bMo_isSignByte_18, bMo_isSignByte_24, bMo_isSignByte_28, bMo_isSignByte_29 (Or.inl rfl), bMo_isSignByte_29 (Or.inr rfl)]
  by_cases y1 : x = nI 59
  · rw [if_pos y1, b2i_t (by simp [cS, y1])]
  rw [if_neg y1]
  by_cases y2 : x = nI 60
  · rw [if_pos y2, b2i_t (by simp [cS, y2])]
  rw [if_neg y2]
  by_cases y3 : x = nI 62
  · rw [if_pos y3, b2i_t (by simp [cS, y3])]
  rw [if_neg y3]
  by_cases y4 : x = nI 61
  · rw [ite_nn y4, b2i_t (by simp [cS, y4])]
  rw [if_pos y4, b2i_f (by simp [cS, y1, y2, y3, y4])]
/-- what the reference's scanner holds behind a next from q -/
def MT (τ : mSt) (T : Nat → Int32) (n q : Nat) : Prop :=
  τ.1 166 14 = nI (kd T n q) ∧ τ.1 166 15 = nI (pl T n q) ∧ τ.1 166 16 = nI (bh T n q) ∧ (kd T n q = 2 → τ.1 166 17 = nI (nn T (pl T n q) (bh T n q - pl T n q))) ∧ (kd T n q = 3 → τ.1 166 17 = T (pl T n q)) ∧ (kd T n q = 1 → τ.1 166 18 = nI (bh T n q - pl T n q) ∧ τ.2 166 19 = if 8 < bh T n q - pl T n q then -1 else lN (wn T (pl T n q) (bh T n q - pl T n q)))
def S66 (o k : Nat) : Bool := o == 166 && decide (14 ≤ k) && decide (k ≤ 19)
theorem Mo_sk {E : mEn} {d : Nat} {Q : mPost} {T : Nat → Int32} {n : Nat} {u : Value} (hb : ∀ k, isBy (T k)) (hn : n ≤ 900) : ∀ f i (τ : mSt), i + f = n → τ.1 170 = T → τ.1 166 9 = nI n → τ.1 166 15 = nI i → (∀ υ, qt S66 τ υ → υ.1 166 15 = nI (rn cB T f i) → WP E (d + 1) mMo_next 58 [.ref 166, u] [] υ Q) → WP E (d + 1) mMo_next 8 [.ref 166, u] [] τ Q
  | 0, i, τ, e, h7, h9, h15, hQ => by
    have e' : i = n := by omega
    subst e'
    rw [bMo_next_8, h9, h15, if_pos (Int32.le_refl _)]
    exact hQ τ qt_rf h15
  | f + 1, i, τ, e, h7, h9, h15, hQ => by
    have hl : lkf T n i = T i &&& nI 255 := if_pos (by omega)
    have eB := lk_B (hb i)
    rw [bMo_next_8, h9, h15, if_neg (nI_ge (by omega) (by omega)), bMo_next_19, h15, Mo_look2 h7 h9 hn (by omega), tl_s, hl]
    have go : cB (T i) = true → WP E (d + 1) mMo_next 45 [.ref 166, u] [] τ Q := fun g => by
      rw [bMo_next_45, h15, nI_1]
      refine Mo_sk hb hn f (i + 1) _ (by omega) h7 h9 rfl (fun υ q g2 => hQ υ (qt_tr (qt_sI qt_rf rfl) q) ?_)
      rw [rn, if_pos g]; exact g2
    rw [bMo_next_27]
    by_cases y : T i &&& nI 255 = nI 10
    · rw [if_pos y]
      exact go (by rw [← eB]; simp [cB, y])
    · rw [if_neg y, bMo_next_32, h15, Mo_look2 h7 h9 hn (by omega), tl_s, hl, bMo_next_40]
      by_cases z : T i &&& nI 255 = nI 32
      · rw [ite_nn z]
        exact go (by rw [← eB]; simp [cB, z])
      · rw [if_pos z]
        refine hQ τ qt_rf ?_
        rw [h15, rn, if_neg (by rw [← eB]; simp [cB, y, z])]
theorem lkf_L {T : Nat → Int32} {n i : Nat} (hb : ∀ k, isBy (T k)) (h : i < n) : cL (lkf T n i) = cL (T i) := by unfold lkf; rw [if_pos h]; exact lk_L (hb i)
theorem lkf_D {T : Nat → Int32} {n i : Nat} (hb : ∀ k, isBy (T k)) (h : i < n) : cD (lkf T n i) = cD (T i) := by unfold lkf; rw [if_pos h]; exact lk_D (hb i)
theorem lkf_0 {T : Nat → Int32} {n i : Nat} (h : ¬ i < n) : lkf T n i = 0 := if_neg h
theorem lN_hom2 {a b : Nat} (h : 96 ≤ b) : lN a * 32 + lN b - 96 = lN (a * 32 + (b - 96)) := by
  rw [Int64.sub_eq_add_neg, Int64.add_assoc, ← Int64.sub_eq_add_neg, ← lN_hom]
  congr 1
  rw [show (96 : Int64) = lN 96 from rfl]
  have : lN b = lN (b - 96) + lN 96 := by
    unfold lN
    rw [← Int64.ofNat_add, show b - 96 + 96 = b by omega]
  rw [this, Int64.add_sub_cancel]
def wm (T : Nat → Int32) (p m : Nat) : Int64 := if 8 < m then -1 else lN (wn T p m)
theorem Mo_word_loop {E : mEn} {d : Nat} {Q : mPost} {T : Nat → Int32} {n p : Nat} {u : Int32} (hb : ∀ k, isBy (T k)) (hn : n ≤ 900) : ∀ f m (τ : mSt), p + m + f = n → τ.1 170 = T → τ.1 166 9 = nI n → τ.1 166 15 = nI p → τ.1 166 16 = nI (p + m) → τ.2 166 19 = wm T p m → (∀ υ, qt S66 τ υ → υ.1 166 14 = τ.1 166 14 → υ.1 166 15 = nI p → υ.1 166 16 = nI (rn cL T f (p + m)) → υ.2 166 19 = wm T p (rn cL T f (p + m) - p) → WP E (d + 1) mMo_next 182 [.ref 166, .int u] [] υ Q) → WP E (d + 1) mMo_next 109 [.ref 166, .int u] [] τ Q
  | 0, m, τ, e, h7, h9, h15, h16, h19, hQ => by
    have e' : p + m = n := by omega
    rw [bMo_next_109, h16, Mo_look2 h7 h9 hn (by omega), tl_s, bMo_next_117, Mo_isLetter, tl_s, bMo_next_120, lkf_0 (by omega), b2i_f (by decide), if_pos rfl]
    exact hQ τ qt_rf rfl h15 h16 (by rw [rn, show p + m - p = m by omega]; exact h19)
  | f + 1, m, τ, e, h7, h9, h15, h16, h19, hQ => by
    rw [bMo_next_109, h16, Mo_look2 h7 h9 hn (by omega), tl_s, bMo_next_117, Mo_isLetter, tl_s, bMo_next_120, lkf_L hb (by omega)]
    by_cases g : cL (T (p + m)) = true
    · obtain ⟨b, b1, b2, eb⟩ := cL_n g
      have lb : lkf T n (p + m) = nI b := by unfold lkf; rw [if_pos (by omega), lk_l (hb _) g, eb]
      rw [b2i_t g, if_neg i10, bMo_next_123, h15, h16, pk_sub (by omega), show p + m - p = m by omega]
      have go : ∀ x : Int64, x = wm T p (m + 1) → WP E (d + 1) mMo_next 166 [.ref 166, .int u] [.long x, .ref 166] τ Q := fun x ex => by
        rw [bMo_next_166, show (sL τ 166 19 x).1 166 16 = nI (p + m) from h16, nI_1]
        refine Mo_word_loop hb hn f (m + 1) _ (by omega) h7 h9 h15 rfl ex (fun υ q g14 g15 g16 g19 => hQ υ (qt_tr (qt_sI (qt_sL qt_rf rfl) rfl) q) g14 g15 ?_ ?_)
        · rw [rn, if_pos g]; exact g16
        · rw [rn, if_pos g]; exact g19
      by_cases w : m < 8
      · rw [if_neg (nI_ge w (by omega)), bMo_next_138, h16, Mo_look2 h7 h9 hn (by omega), tl_s, bMo_next_154, lb, nI_l (by omega)]
        refine go _ ?_
        unfold wm at h19 ⊢
        rw [if_neg (by omega)] at h19
        rw [h19, if_neg (by omega), lN_hom2 (by omega), wn, eb, nI_clamp (by omega)]
      · rw [if_pos (nI_le (by omega) (by omega)), bMo_next_163]
        exact go _ (by unfold wm; rw [if_pos (by omega)])
    · rw [b2i_f g, if_pos rfl]
      exact hQ τ qt_rf rfl h15 (by rw [rn, if_neg g]; exact h16) (by rw [rn, if_neg g, show p + m - p = m by omega]; exact h19)
theorem Mo_num_loop {E : mEn} {d : Nat} {Q : mPost} {T : Nat → Int32} {n p : Nat} {u : Int32} (hb : ∀ k, isBy (T k)) (hn : n ≤ 900) : ∀ f m (τ : mSt), p + m + f = n → τ.1 170 = T → τ.1 166 9 = nI n → τ.1 166 15 = nI p → τ.1 166 16 = nI (p + m) → τ.1 166 17 = nI (nn T p m) → (∀ υ, qt S66 τ υ → υ.1 166 15 = nI p → υ.1 166 16 = nI (rn cD T f (p + m)) → υ.1 166 17 = nI (nn T p (rn cD T f (p + m) - p)) → WP E (d + 1) mMo_next 273 [.ref 166, .int u] [] υ Q) → WP E (d + 1) mMo_next 210 [.ref 166, .int u] [] τ Q
  | 0, m, τ, e, h7, h9, h15, h16, h17, hQ => by
    rw [bMo_next_210, h16, Mo_look2 h7 h9 hn (by omega), tl_s, bMo_next_218, Mo_isDigit, tl_s, bMo_next_221, lkf_0 (by omega), b2i_f (by decide), if_pos rfl]
    exact hQ τ qt_rf h15 h16 (by rw [rn, show p + m - p = m by omega]; exact h17)
  | f + 1, m, τ, e, h7, h9, h15, h16, h17, hQ => by
    rw [bMo_next_210, h16, Mo_look2 h7 h9 hn (by omega), tl_s, bMo_next_218, Mo_isDigit, tl_s, bMo_next_221, lkf_D hb (by omega)]
    by_cases g : cD (T (p + m)) = true
    · obtain ⟨b, b1, b2, eb⟩ := cD_n g
      have lb : lkf T n (p + m) = nI b := by unfold lkf; rw [if_pos (by omega), lk_d (hb _) g, eb]
      rw [b2i_t g, if_neg i10, bMo_next_224, h15, h16, pk_sub (by omega), show p + m - p = m by omega]
      have go : ∀ (υ : mSt), qt S66 τ υ → υ.1 166 15 = nI p → υ.1 166 16 = nI (p + m) → υ.1 166 17 = nI (nn T p (m + 1)) → WP E (d + 1) mMo_next 260 [.ref 166, .int u] [] υ Q := fun υ q k15 k16 k17 => by
        rw [bMo_next_260, k16, nI_1]
        have k7 : υ.1 170 = T := (funext fun k => (q 170 k rfl).1).trans h7
        refine Mo_num_loop hb hn f (m + 1) _ (by omega) k7 ((q 166 9 rfl).1.trans h9) k15 rfl k17 (fun ω q2 g15 g16 g17 => hQ ω (qt_tr q (qt_tr (qt_sI qt_rf rfl) q2)) g15 ?_ ?_)
        · rw [rn, if_pos g]; exact g16
        · rw [rn, if_pos g]; exact g17
      by_cases w : m < 4
      · rw [if_neg (nI_ge w (by omega)), bMo_next_237, h16, h17, Mo_look2 h7 h9 hn (by omega), tl_s, bMo_next_253, lb, pk_mul, nI_add, pk_sub (by omega)]
        refine go _ (qt_sI qt_rf rfl) h15 h16 ?_
        rw [sI_e, nn, if_pos w, eb, nI_clamp (by omega), show 10 * nn T p m + b - 48 = nn T p m * 10 + (b - 48) by omega]
      · rw [if_pos (nI_le (by omega) (by omega))]
        exact go τ qt_rf h15 h16 (by rw [nn, if_neg w]; exact h17)
    · rw [b2i_f g, if_pos rfl]
      exact hQ τ qt_rf h15 (by rw [rn, if_neg g]; exact h16) (by rw [rn, if_neg g, show p + m - p = m by omega]; exact h17)
theorem Mo_next {E : mEn} {d : Nat} {Q : mPost} {τ : mSt} {T : Nat → Int32} {n q : Nat} {u1 : Value} (hb : ∀ k, isBy (T k)) (h7 : τ.1 170 = T) (h9 : τ.1 166 9 = nI n) (h16 : τ.1 166 16 = nI q) (hn : n ≤ 900) (hq : q ≤ n) (hQ : ∀ υ, qt S66 τ υ → MT υ T n q → Q none υ) : WP E (d + 1) mMo_next 0 [.ref 166, u1] [] τ Q := by
  have p1 := pl_le (T := T) hq
  rw [bMo_next_0, h16]
  refine Mo_sk hb hn (n - q) q _ (by omega) h7 h9 rfl (fun υ q1 g15 => ?_)
  rw [show rn cB T (n - q) q = pl T n q from rfl] at g15
  have k7 : υ.1 170 = T := (funext fun k => (q1 170 k rfl).1).trans h7
  have k9 : υ.1 166 9 = nI n := (q1 166 9 rfl).1.trans h9
  have eb : bh T n q = if n ≤ pl T n q then pl T n q else if cL (T (pl T n q)) then wE T n q else if cD (T (pl T n q)) then dE T n q else pl T n q + 1 := rfl
  have ek : kd T n q = if n ≤ pl T n q then 0 else if cL (T (pl T n q)) then 1 else if cD (T (pl T n q)) then (if 4 < dE T n q - pl T n q then 4 else 2) else if cS (T (pl T n q)) then 3 else 4 := rfl
  have w1 := wE_le p1
  have w2 := wE_ge (T := T) (n := n) (q := q)
  have v1 := dE_le p1
  have v2 := dE_ge (T := T) (n := n) (q := q)
  have ew : wE T n q = rn cL T (n - pl T n q) (pl T n q) := rfl
  have ed : dE T n q = rn cD T (n - pl T n q) (pl T n q) := rfl
  have hMT : ∀ υ, MT υ T n q = (υ.1 166 14 = nI (kd T n q) ∧ υ.1 166 15 = nI (pl T n q) ∧ υ.1 166 16 = nI (bh T n q) ∧ (kd T n q = 2 → υ.1 166 17 = nI (nn T (pl T n q) (bh T n q - pl T n q))) ∧ (kd T n q = 3 → υ.1 166 17 = T (pl T n q)) ∧ (kd T n q = 1 → υ.1 166 18 = nI (bh T n q - pl T n q) ∧ υ.2 166 19 = if 8 < bh T n q - pl T n q then -1 else lN (wn T (pl T n q) (bh T n q - pl T n q)))) := fun υ => rfl
  generalize pl T n q = p at *
  generalize wE T n q = e at *
  generalize dE T n q = g at *
  generalize bh T n q = b at *
  generalize kd T n q = k at *
  have q2 : qt S66 τ (sI υ 166 16 (nI p)) := qt_sI (qt_tr (qt_sI qt_rf rfl) q1) rfl
  rw [bMo_next_58, g15]
  have m15 : (sI υ 166 16 (nI p)).1 166 15 = nI p := g15
  have m9 : (sI υ 166 16 (nI p)).1 166 9 = nI n := k9
  have m7 : (sI υ 166 16 (nI p)).1 170 = T := k7
  have m16 : (sI υ 166 16 (nI p)).1 166 16 = nI p := rfl
  generalize sI υ 166 16 (nI p) = φ at *
  clear q1 g15 k7 k9
  rw [m15, m9]
  by_cases z : n ≤ p
  · rw [if_pos z] at eb ek
    subst eb ek
    rw [if_neg (nI_nlt z (by omega)), bMo_next_77]
    refine hQ _ (qt_sI q2 rfl) ?_
    rw [hMT]
    exact ⟨rfl, m15, m16, fun h => absurd h (by decide), fun h => absurd h (by decide), fun h => absurd h (by decide)⟩
  rw [if_neg z] at eb ek
  have lP : lkf T n p = T p &&& nI 255 := if_pos (by omega)
  rw [if_pos (nI_lt (by omega) (by omega)), bMo_next_83, m15, Mo_look2 m7 m9 hn (by omega), tl_s, bMo_next_91, Mo_isLetter, tl_s, bMo_next_96, lkf_L hb (by omega)]
  by_cases l : cL (T p) = true
  · rw [if_pos l] at eb ek
    subst eb ek
    rw [b2i_t l, if_neg i10, bMo_next_99]
    refine Mo_word_loop hb hn (n - p) 0 _ (by omega) m7 m9 m15 m16 rfl (fun ω q3 g14 g15 g16 g19 => ?_)
    rw [Nat.add_zero, ← ew] at g16 g19
    rw [bMo_next_182, g16, g15, pk_sub w2, bMo_next_330]
    refine hQ _ (qt_sI (qt_tr (qt_sL (qt_sI q2 rfl) rfl) q3) rfl) ?_
    rw [hMT]
    exact ⟨g14, g15, g16, fun h => absurd h (by decide), fun h => absurd h (by decide), fun _ => ⟨rfl, g19⟩⟩
  rw [if_neg l] at eb ek
  rw [b2i_f l, if_pos rfl, bMo_next_198, Mo_isDigit, tl_s, bMo_next_202, lkf_D hb (by omega)]
  by_cases dd : cD (T p) = true
  · rw [if_pos dd] at eb ek
    subst eb
    rw [b2i_t dd, if_neg i10, bMo_next_205]
    refine Mo_num_loop hb hn (n - p) 0 _ (by omega) m7 m9 m15 m16 rfl (fun ω q3 g15 g16 g17 => ?_)
    rw [Nat.add_zero, ← ed] at g16 g17
    have fin : ∀ x : Int32, x = nI k → WP E (d + 1) mMo_next 292 [.ref 166, .int (lkf T n p)] [.int x, .ref 166] ω Q := fun x ex => by
      rw [bMo_next_292, bMo_next_330]
      refine hQ _ (qt_sI (qt_tr (qt_sI q2 rfl) q3) rfl) ?_
      rw [hMT]
      refine ⟨ex, g15, g16, fun h => g17, fun h => ?_, fun h => ?_⟩
      · rw [h] at ek; split at ek <;> omega
      · rw [h] at ek; split at ek <;> omega
    rw [bMo_next_273, g16, g15, pk_sub v2]
    by_cases y : 4 < b - p
    · rw [if_neg (nI_ge y (by omega)), bMo_next_287]
      exact fin _ (by rw [ek, if_pos y])
    · rw [if_pos (nI_le (by omega) (by omega)), bMo_next_291]
      exact fin _ (by rw [ek, if_neg y])
  · rw [if_neg dd] at eb ek
    subst eb
    rw [b2i_f dd, if_pos rfl, bMo_next_298, m15, Mo_isSignByte, tl_s, bMo_next_319, lP, lk_S (hb p), nI_1]
    have q3 : qt S66 τ (sI (sI φ 166 16 (nI (p + 1))) 166 17 (T p &&& nI 255)) := qt_sI (qt_sI q2 rfl) rfl
    by_cases s : cS (T p) = true
    · rw [b2i_t s, if_neg i10, bMo_next_322, bMo_next_327, bMo_next_330]
      rw [if_pos s] at ek
      subst ek
      refine hQ _ (qt_sI q3 rfl) ?_
      rw [hMT]
      exact ⟨rfl, m15, rfl, fun h => absurd h (by decide), fun h => lk_s (hb p) s, fun h => absurd h (by decide)⟩
    · rw [b2i_f s, if_pos rfl, bMo_next_326, bMo_next_327, bMo_next_330]
      rw [if_neg s] at ek
      subst ek
      refine hQ _ (qt_sI q3 rfl) ?_
      rw [hMT]
      exact ⟨rfl, m15, rfl, fun h => absurd h (by decide), fun h => absurd h (by decide), fun h => absurd h (by decide)⟩
