/-! the tokens of a text: what both scanners see -/
def cL (x : Int32) : Bool := !decide (x < nI 97) && !decide (nI 122 < x)
def cD (x : Int32) : Bool := !decide (x < nI 48) && !decide (nI 57 < x)
def cB (x : Int32) : Bool := decide (x = nI 32) || decide (x = nI 10)
def cS (x : Int32) : Bool := decide (x = nI 59) || decide (x = nI 60) || decide (x = nI 62) || decide (x = nI 61)
def byF (v : Fin 256) : Int32 := Int32.ofInt ((v.val : Int) - 128)
theorem by_cs {x : Int32} (h : isBy x) : ∃ v : Fin 256, x = byF v := by
  have h1 := h.1
  have h2 := h.2
  refine ⟨⟨(x.toInt + 128).toNat, by omega⟩, ?_⟩
  unfold byF
  rw [show (((x.toInt + 128).toNat : Nat) : Int) - 128 = x.toInt by omega, Int32.ofInt_toInt]
theorem lk_all : ∀ v : Fin 256, cL (byF v &&& nI 255) = cL (byF v) ∧ cD (byF v &&& nI 255) = cD (byF v) ∧ cB (byF v &&& nI 255) = cB (byF v) ∧ cS (byF v &&& nI 255) = cS (byF v) ∧ (cL (byF v) = true → byF v &&& nI 255 = byF v) ∧ (cD (byF v) = true → byF v &&& nI 255 = byF v) ∧ (cS (byF v) = true → byF v &&& nI 255 = byF v) := by decide +kernel
theorem lk_L {x : Int32} (h : isBy x) : cL (x &&& nI 255) = cL x := by obtain ⟨v, rfl⟩ := by_cs h; exact (lk_all v).1
theorem lk_D {x : Int32} (h : isBy x) : cD (x &&& nI 255) = cD x := by obtain ⟨v, rfl⟩ := by_cs h; exact (lk_all v).2.1
theorem lk_B {x : Int32} (h : isBy x) : cB (x &&& nI 255) = cB x := by obtain ⟨v, rfl⟩ := by_cs h; exact (lk_all v).2.2.1
theorem lk_S {x : Int32} (h : isBy x) : cS (x &&& nI 255) = cS x := by obtain ⟨v, rfl⟩ := by_cs h; exact (lk_all v).2.2.2.1
theorem lk_l {x : Int32} (h : isBy x) (g : cL x = true) : x &&& nI 255 = x := by obtain ⟨v, rfl⟩ := by_cs h; exact (lk_all v).2.2.2.2.1 g
theorem lk_d {x : Int32} (h : isBy x) (g : cD x = true) : x &&& nI 255 = x := by obtain ⟨v, rfl⟩ := by_cs h; exact (lk_all v).2.2.2.2.2.1 g
theorem lk_s {x : Int32} (h : isBy x) (g : cS x = true) : x &&& nI 255 = x := by obtain ⟨v, rfl⟩ := by_cs h; exact (lk_all v).2.2.2.2.2.2 g
theorem cL_n {x : Int32} (h : cL x = true) : ∃ b, 97 ≤ b ∧ b ≤ 122 ∧ x = nI b := by
  simp only [cL, Bool.and_eq_true, Bool.not_eq_true', decide_eq_false_iff_not] at h
  rcases sw_cs x 97 122 with ⟨b, h1, h2, e⟩ | hne
  · exact ⟨b, h1, h2, e⟩
  · exfalso
    have a := Int32.not_lt.mp h.1
    have b := Int32.not_lt.mp h.2
    have a' := Int32.le_iff_toInt_le.mp a
    have b' := Int32.le_iff_toInt_le.mp b
    have e1 : (nI 97).toInt = 97 := rfl
    have e2 : (nI 122).toInt = 122 := rfl
    obtain ⟨n, hn, e⟩ := nI_toI (x := x) (B := 122) (by omega) (by omega)
    have e3 : (nI n).toInt = n := nI_toInt (by omega)
    rw [e, e3] at a' b'
    exact hne n (by omega) (by omega) e
theorem cD_n {x : Int32} (h : cD x = true) : ∃ b, 48 ≤ b ∧ b ≤ 57 ∧ x = nI b := by
  simp only [cD, Bool.and_eq_true, Bool.not_eq_true', decide_eq_false_iff_not] at h
  rcases sw_cs x 48 57 with ⟨b, h1, h2, e⟩ | hne
  · exact ⟨b, h1, h2, e⟩
  · exfalso
    have a := Int32.not_lt.mp h.1
    have b := Int32.not_lt.mp h.2
    have a' := Int32.le_iff_toInt_le.mp a
    have b' := Int32.le_iff_toInt_le.mp b
    have e1 : (nI 48).toInt = 48 := rfl
    have e2 : (nI 57).toInt = 57 := rfl
    obtain ⟨n, hn, e⟩ := nI_toI (x := x) (B := 57) (by omega) (by omega)
    have e3 : (nI n).toInt = n := nI_toInt (by omega)
    rw [e, e3] at a' b'
    exact hne n (by omega) (by omega) e
/-- the first place from i on that p does not hold of, at most f places on -/
def rn (p : Int32 → Bool) (T : Nat → Int32) : Nat → Nat → Nat
  | 0, i => i
  | f + 1, i => if p (T i) then rn p T f (i + 1) else i
theorem rn_ge {p : Int32 → Bool} {T : Nat → Int32} : ∀ f i, i ≤ rn p T f i
  | 0, i => Nat.le_refl _
  | f + 1, i => by
    rw [rn]
    split
    · have := rn_ge (p := p) (T := T) f (i + 1); omega
    · exact Nat.le_refl _
theorem rn_le {p : Int32 → Bool} {T : Nat → Int32} : ∀ f i, rn p T f i ≤ i + f
  | 0, i => Nat.le_refl _
  | f + 1, i => by
    rw [rn]
    split
    · have := rn_le (p := p) (T := T) f (i + 1); omega
    · omega
/-- the letters' number -/
def wn (T : Nat → Int32) (p : Nat) : Nat → Nat
  | 0 => 0
  | m + 1 => wn T p m * 32 + ((T (p + m)).toNatClampNeg - 96)
/-- the digits' number, of the first four -/
def nn (T : Nat → Int32) (p : Nat) : Nat → Nat
  | 0 => 0
  | m + 1 => if m < 4 then nn T p m * 10 + ((T (p + m)).toNatClampNeg - 48) else nn T p m
def pl (T : Nat → Int32) (n q : Nat) : Nat := rn cB T (n - q) q
def wE (T : Nat → Int32) (n q : Nat) : Nat := rn cL T (n - pl T n q) (pl T n q)
def dE (T : Nat → Int32) (n q : Nat) : Nat := rn cD T (n - pl T n q) (pl T n q)
def kd (T : Nat → Int32) (n q : Nat) : Nat := if n ≤ pl T n q then 0 else if cL (T (pl T n q)) then 1 else if cD (T (pl T n q)) then (if 4 < dE T n q - pl T n q then 4 else 2) else if cS (T (pl T n q)) then 3 else 4
def bh (T : Nat → Int32) (n q : Nat) : Nat := if n ≤ pl T n q then pl T n q else if cL (T (pl T n q)) then wE T n q else if cD (T (pl T n q)) then dE T n q else pl T n q + 1
/-- what the class's scanner holds behind an advance from q -/
def CT (τ : mSt) (T : Nat → Int32) (n q : Nat) : Prop :=
  τ.1 6 4 = nI (kd T n q) ∧ τ.1 6 5 = nI (pl T n q) ∧ τ.1 6 6 = nI (bh T n q) ∧ (kd T n q = 2 → τ.1 6 7 = nI (nn T (pl T n q) (bh T n q - pl T n q))) ∧ (kd T n q = 3 → τ.1 6 7 = T (pl T n q)) ∧ (kd T n q = 1 → τ.2 6 8 = if 8 < bh T n q - pl T n q then 0 else lN (wn T (pl T n q) (bh T n q - pl T n q)))
def S6 (o k : Nat) : Bool := o == 6 && decide (4 ≤ k) && decide (k ≤ 8)
theorem To_sk {E : mEn} {d : Nat} {Q : mPost} {τ : mSt} {T : Nat → Int32} {n : Nat} {u : Value} (h7 : τ.1 7 = T) (h3 : τ.1 6 3 = nI n) (hn : n ≤ 900) : ∀ f i, i + f = n → WP E d mTo_advance 5 [.ref 6, .int (nI i), u] [] τ Q = WP E d mTo_advance 41 [.ref 6, .int (nI (rn cB T f i)), u] [] τ Q
  | 0, i, e => by
    have e' : i = n := by omega
    subst e'
    rw [bTo_advance_5, h3, if_pos (Int32.le_refl _)]; rfl
  | f + 1, i, e => by
    rw [bTo_advance_5, h3, if_neg (nI_ge (by omega) (by omega)), bTo_advance_13, mOut_f (by omega) (by omega), nI_clamp (by omega), h7, if_neg (by decide), rn]
    by_cases z : T i = nI 32
    · rw [if_pos z, if_pos (by simp [cB, z]), bTo_advance_35, nI_1]
      exact To_sk h7 h3 hn f (i + 1) (by omega)
    · rw [if_neg z, bTo_advance_24, mOut_f (by omega) (by omega), nI_clamp (by omega), h7, if_neg (by decide)]
      by_cases y : T i = nI 10
      · rw [ite_nn y, if_pos (by simp [cB, y]), bTo_advance_35, nI_1]
        exact To_sk h7 h3 hn f (i + 1) (by omega)
      · rw [if_pos y, if_neg (by simp [cB, z, y])]
theorem lN_hom {a b : Nat} : lN a * 32 + lN b = lN (a * 32 + b) := by
  rw [show (32 : Int64) = lN 32 from rfl]
  unfold lN
  rw [Int64.ofNat_add, Int64.ofNat_mul]
theorem To_word_loop {E : mEn} {d : Nat} {Q : mPost} {τ : mSt} {T : Nat → Int32} {n p : Nat} (h7 : τ.1 7 = T) (h3 : τ.1 6 3 = nI n) (hn : n ≤ 900) : ∀ f m, p + m + f = n → WP E d mTo_cutWord 7 [.ref 6, .long (lN (wn T p m)), uu, .int (nI (p + m))] [] τ Q = WP E d mTo_cutWord 62 [.ref 6, .long (lN (wn T p (rn cL T f (p + m) - p))), uu, .int (nI (rn cL T f (p + m)))] [] τ Q
  | 0, m, e => by
    have e' : p + m = n := by omega
    rw [bTo_cutWord_7, h3, rn, e', if_pos (Int32.le_refl _), show n - p = m by omega]
  | f + 1, m, e => by
    rw [bTo_cutWord_7, h3, if_neg (nI_ge (by omega) (by omega)), bTo_cutWord_15, mOut_f (by omega) (by omega), nI_clamp (by omega), h7, if_neg (by decide), rn]
    by_cases z : T (p + m) < nI 97
    · rw [if_pos z, if_neg (by simp [cL, z]), show p + m - p = m by omega]
    · rw [if_neg z, bTo_cutWord_26, mOut_f (by omega) (by omega), nI_clamp (by omega), h7, if_neg (by decide)]
      by_cases y : nI 122 < T (p + m)
      · rw [if_pos y, if_neg (by simp [cL, y]), show p + m - p = m by omega]
      · have g : cL (T (p + m)) = true := by simp [cL, z, y]
        obtain ⟨b, b1, b2, eb⟩ := cL_n g
        rw [if_neg y, if_pos g, bTo_cutWord_37, mOut_f (by omega) (by omega), nI_clamp (by omega), h7, if_neg (by decide), eb, pk_sub (by omega), nI_1, nI_1, nI_l (by omega), lN_hom]
        have IH := To_word_loop (E := E) (d := d) (Q := Q) (p := p) h7 h3 hn f (m + 1) (by omega)
        rw [wn, eb, nI_clamp (by omega), show b - 96 = b - 97 + 1 by omega] at IH
        exact IH
theorem To_num_loop {E : mEn} {d : Nat} {Q : mPost} {τ : mSt} {T : Nat → Int32} {n p : Nat} (h7 : τ.1 7 = T) (h3 : τ.1 6 3 = nI n) (h5 : τ.1 6 5 = nI p) (hn : n ≤ 900) : ∀ f m, p + m + f = n → WP E d mTo_cutNumber 7 [.ref 6, .int (nI (nn T p m)), .int (nI (p + m))] [] τ Q = WP E d mTo_cutNumber 72 [.ref 6, .int (nI (nn T p (rn cD T f (p + m) - p))), .int (nI (rn cD T f (p + m)))] [] τ Q
  | 0, m, e => by
    have e' : p + m = n := by omega
    rw [bTo_cutNumber_7, h3, rn, e', if_pos (Int32.le_refl _), show n - p = m by omega]
  | f + 1, m, e => by
    rw [bTo_cutNumber_7, h3, if_neg (nI_ge (by omega) (by omega)), bTo_cutNumber_15, mOut_f (by omega) (by omega), nI_clamp (by omega), h7, if_neg (by decide), rn]
    by_cases z : T (p + m) < nI 48
    · rw [if_pos z, if_neg (by simp [cD, z]), show p + m - p = m by omega]
    · rw [if_neg z, bTo_cutNumber_26, mOut_f (by omega) (by omega), nI_clamp (by omega), h7, if_neg (by decide)]
      by_cases y : nI 57 < T (p + m)
      · rw [if_pos y, if_neg (by simp [cD, y]), show p + m - p = m by omega]
      · have g : cD (T (p + m)) = true := by simp [cD, z, y]
        obtain ⟨b, b1, b2, eb⟩ := cD_n g
        have IH := To_num_loop (E := E) (d := d) (Q := Q) (p := p) h7 h3 h5 hn f (m + 1) (by omega)
        rw [nn, eb, nI_clamp (by omega)] at IH
        rw [if_neg y, if_pos g, bTo_cutNumber_37, h5, pk_sub (by omega), show p + m - p = m by omega]
        by_cases w : m < 4
        · rw [if_pos w] at IH
          rw [if_neg (nI_ge w (by omega)), bTo_cutNumber_47, mOut_f (by omega) (by omega), nI_clamp (by omega), h7, if_neg (by decide), eb, pk_sub (by omega), pk_mul, nI_add, bTo_cutNumber_65, nI_1]
          exact IH
        · rw [if_neg w] at IH
          rw [if_pos (nI_le (by omega) (by omega)), bTo_cutNumber_64, bTo_cutNumber_65, nI_1]
          exact IH
