/-! handOvers: sets of persons, their sums, the most groups whose nets are 0 -/
theorem bsMF : ∀ p : Fin 8, ∀ x : Fin 256, Nat.testBit x.1 p.1 = true → nI x.1 &&& ((1 <<< (nI p.1 &&& 31)) ^^^ (-1)) = nI (x.1 - 2 ^ p.1) := by decide +kernel
theorem bsM {x p : Nat} (hp : p < 8) (hx : x < 256) (h : Nat.testBit x p = true) : nI x &&& ((1 <<< (nI p &&& 31)) ^^^ (-1)) = nI (x - 2 ^ p) := bsMF ⟨p, hp⟩ ⟨x, hx⟩ h
theorem tb_subF : ∀ x : Fin 256, ∀ p i : Fin 8, Nat.testBit x.1 p.1 = true → Nat.testBit (x.1 - 2 ^ p.1) i.1 = (Nat.testBit x.1 i.1 && !decide (i.1 = p.1)) := by decide +kernel
theorem tb_sub {x p i : Nat} (hx : x < 256) (hp : p < 8) (hi : i < 8) (h : Nat.testBit x p = true) : Nat.testBit (x - 2 ^ p) i = (Nat.testBit x i && !decide (i = p)) := tb_subF ⟨x, hx⟩ ⟨p, hp⟩ ⟨i, hi⟩ h
theorem tb_addF : ∀ x : Fin 256, ∀ p i : Fin 8, Nat.testBit x.1 p.1 = false → Nat.testBit (x.1 + 2 ^ p.1) i.1 = (Nat.testBit x.1 i.1 || decide (i.1 = p.1)) := by decide +kernel
theorem tb_add {x p i : Nat} (hx : x < 256) (hp : p < 8) (hi : i < 8) (h : Nat.testBit x p = false) : Nat.testBit (x + 2 ^ p) i = (Nat.testBit x i || decide (i = p)) := tb_addF ⟨x, hx⟩ ⟨p, hp⟩ ⟨i, hi⟩ h
theorem ad_ltF : ∀ x : Fin 256, ∀ p n : Fin 9, p.1 < n.1 → x.1 < 2 ^ n.1 → p.1 < 8 → Nat.testBit x.1 p.1 = false → x.1 + 2 ^ p.1 < 2 ^ n.1 := by decide +kernel
theorem ad_lt {x p n : Nat} (hn : n ≤ 8) (hx : x < 2 ^ n) (hp : p < n) (h : Nat.testBit x p = false) : x + 2 ^ p < 2 ^ n := ad_ltF ⟨x, pw8 hn hx⟩ ⟨p, by omega⟩ ⟨n, by omega⟩ hp hx (show p < 8 by omega) h
theorem tb_le {x p : Nat} (h : Nat.testBit x p = true) : 2 ^ p ≤ x := Nat.ge_two_pow_of_testBit h
theorem p2p (p : Nat) : 0 < 2 ^ p := Nat.two_pow_pos p
def smF (net : Nat → Int32) (y : Nat) : Nat → Int32
  | 0 => 0
  | n + 1 => if Nat.testBit y n = true then smF net y n + net n else smF net y n
theorem smF_z {net : Nat → Int32} {y n : Nat} (hy : y < 2 ^ n) : ∀ j, smF net y (n + j) = smF net y n
  | 0 => rfl
  | j + 1 => by
    have : 2 ^ n ≤ 2 ^ (n + j) := Nat.pow_le_pow_right (by omega) (by omega)
    show smF net y ((n + j) + 1) = _
    rw [smF, Nat.testBit_lt_two_pow (show y < 2 ^ (n + j) by omega), if_neg (by decide), smF_z hy j]
theorem smF_c {net : Nat → Int32} {y x : Nat} : ∀ n, (∀ i, i < n → Nat.testBit x i = Nat.testBit y i) → smF net x n = smF net y n
  | 0, _ => rfl
  | n + 1, h => by rw [smF, smF, h n (by omega), smF_c n (fun i hi => h i (by omega))]
theorem smF_zero {net : Nat → Int32} {y x z : Nat} (hz : net z = 0) : ∀ n, (∀ i, i < n → i ≠ z → Nat.testBit x i = Nat.testBit y i) → smF net x n = smF net y n
  | 0, _ => rfl
  | n + 1, h => by
    have IH := smF_zero (net := net) (y := y) (x := x) hz n (fun i hi => h i (by omega))
    by_cases e : n = z
    · subst e
      rw [smF, smF, hz, Int32.add_zero, Int32.add_zero, ite_self, ite_self, IH]
    · rw [smF, smF, h n (by omega) e, IH]
theorem smF_0 {net : Nat → Int32} : ∀ n, smF net 0 n = 0
  | 0 => rfl
  | n + 1 => by rw [smF, Nat.zero_testBit, if_neg (by decide), smF_0 n]
/-- the most over those whose bit is there -/
def hoV (T : Nat → Nat) (y : Nat) : Nat → Nat
  | 0 => 0
  | n + 1 => if Nat.testBit y n = true then mx (hoV T y n) (T (y - 2 ^ n)) else hoV T y n
def hoT (np : Nat) (s : Nat → Int32) : Nat → Nat → Nat
  | 0, _ => 0
  | k + 1, y => if y = k then (if k = 0 then 0 else hoV (hoT np s k) k np + (if s k = 0 then 1 else 0)) else hoT np s k y
def hoG (np : Nat) (s : Nat → Int32) (y : Nat) : Nat := hoT np s (y + 1) y
theorem hoT_at {np : Nat} {s : Nat → Int32} : ∀ k y, y < k → hoT np s k y = hoG np s y
  | 0, y, h => absurd h (by omega)
  | k + 1, y, h => by
    by_cases e : y = k
    · subst e; rfl
    · rw [hoT, if_neg e]
      exact hoT_at k y (by omega)
theorem hoV_c {T U : Nat → Nat} {y : Nat} (h : ∀ x, x < y → T x = U x) : ∀ n, hoV T y n = hoV U y n
  | 0 => rfl
  | n + 1 => by
    rw [hoV, hoV, hoV_c h n]
    by_cases z : Nat.testBit y n = true
    · have := tb_le z
      have := p2p n
      rw [if_pos z, if_pos z, h _ (by omega)]
    · rw [if_neg z, if_neg z]
theorem hoG_0 {np : Nat} {s : Nat → Int32} : hoG np s 0 = 0 := by unfold hoG; rw [hoT, if_pos rfl, if_pos rfl]
theorem hoG_e {np : Nat} {s : Nat → Int32} {y : Nat} (h : y ≠ 0) : hoG np s y = hoV (hoG np s) y np + (if s y = 0 then 1 else 0) := by
  show hoT np s (y + 1) y = _
  rw [hoT, if_pos rfl, if_neg h, hoV_c (U := hoG np s) (fun x hx => hoT_at y x hx)]
theorem mx_l {a b : Nat} : a ≤ mx a b := by unfold mx; split <;> omega
theorem mx_r {a b : Nat} : b ≤ mx a b := by unfold mx; split <;> omega
theorem mx_o {a b : Nat} : mx a b = a ∨ mx a b = b := by unfold mx; split <;> simp
theorem hoV_ub {T : Nat → Nat} {y : Nat} : ∀ n p, p < n → Nat.testBit y p = true → T (y - 2 ^ p) ≤ hoV T y n
  | 0, p, h, _ => absurd h (by omega)
  | n + 1, p, h, hb => by
    rw [hoV]
    by_cases e : p = n
    · subst e; rw [if_pos hb]; exact mx_r
    · have := hoV_ub (T := T) n p (by omega) hb
      split
      · exact Nat.le_trans this mx_l
      · exact this
theorem hoV_at {T : Nat → Nat} {y : Nat} : ∀ n, hoV T y n = 0 ∨ ∃ p, p < n ∧ Nat.testBit y p = true ∧ hoV T y n = T (y - 2 ^ p)
  | 0 => Or.inl rfl
  | n + 1 => by
    rw [hoV]
    have IH := hoV_at (T := T) (y := y) n
    by_cases z : Nat.testBit y n = true
    · rw [if_pos z]
      rcases mx_o (a := hoV T y n) (b := T (y - 2 ^ n)) with e | e
      · rw [e]
        rcases IH with h | ⟨p, h1, h2, h3⟩
        · exact Or.inl h
        · exact Or.inr ⟨p, by omega, h2, h3⟩
      · rw [e]; exact Or.inr ⟨n, by omega, z, rfl⟩
    · rw [if_neg z]
      rcases IH with h | ⟨p, h1, h2, h3⟩
      · exact Or.inl h
      · exact Or.inr ⟨p, by omega, h2, h3⟩
theorem hoV_le {T : Nat → Nat} {y B : Nat} (n : Nat) (h : ∀ p, p < n → Nat.testBit y p = true → T (y - 2 ^ p) ≤ B) : hoV T y n ≤ B := by
  rcases hoV_at (T := T) (y := y) n with e | ⟨p, h1, h2, h3⟩
  · omega
  · rw [h3]; exact h p h1 h2
theorem hoG_le {np : Nat} {s : Nat → Int32} : ∀ n y, y < n → hoG np s y ≤ y
  | 0, y, h => absurd h (by omega)
  | n + 1, y, h => by
    by_cases e : y = 0
    · subst e; rw [hoG_0]; omega
    · rw [hoG_e e]
      have := hoV_le (T := hoG np s) (y := y) (B := y - 1) np (fun p h1 h2 => by
        have := tb_le h2
        have := p2p p
        have := hoG_le (np := np) (s := s) n (y - 2 ^ p) (by omega)
        omega)
      split <;> omega
/-- one more whose net is 0: one group more -/
theorem hoG_add {np z : Nat} {net : Nat → Int32} (hn : np ≤ 8) (hz : z < np) (h0 : net z = 0) : ∀ n y, y < n → y < 2 ^ np → Nat.testBit y z = false → hoG np (fun y => smF net y np) (y + 2 ^ z) = hoG np (fun y => smF net y np) y + 1
  | 0, y, h, _, _ => absurd h (by omega)
  | n + 1, y, h, hy, hb => by
    have y8 := pw8 hn hy
    have hp := p2p z
    have es : smF net (y + 2 ^ z) np = smF net y np := smF_zero h0 np (fun i hi hne => by rw [tb_add y8 (by omega) (by omega) hb]; simp [hne])
    have bz : Nat.testBit (y + 2 ^ z) z = true := by rw [tb_add y8 (by omega) (by omega) hb]; simp
    rw [hoG_e (y := y + 2 ^ z) (by omega), es]
    have cz : y + 2 ^ z - 2 ^ z = y := by omega
    by_cases e : y = 0
    · subst e
      have : hoV (hoG np fun y => smF net y np) (0 + 2 ^ z) np ≤ 0 := hoV_le np (fun p h1 h2 => by
        rw [tb_add y8 (by omega) (by omega) hb, Nat.zero_testBit, Bool.false_or, decide_eq_true_eq] at h2
        subst h2
        rw [cz, hoG_0]; omega)
      rw [smF_0, if_pos rfl, hoG_0]
      omega
    · have hE := hoG_e (np := np) (s := fun y => smF net y np) e
      have cand : ∀ p, p < np → p ≠ z → Nat.testBit y p = true → hoG np (fun y => smF net y np) (y + 2 ^ z - 2 ^ p) = hoG np (fun y => smF net y np) (y - 2 ^ p) + 1 := fun p h1 h2 h3 => by
        have := tb_le h3
        have := p2p p
        rw [show y + 2 ^ z - 2 ^ p = (y - 2 ^ p) + 2 ^ z by omega]
        exact hoG_add hn hz h0 n (y - 2 ^ p) (by omega) (by omega) (by rw [tb_sub y8 (by omega) (by omega) h3, hb]; rfl)
      generalize hoG np (fun y => smF net y np) = G at hE cand ⊢
      have up : hoV G (y + 2 ^ z) np ≤ hoV G y np + 1 := hoV_le np (fun p h1 h2 => by
        by_cases ez : p = z
        · subst ez
          rw [cz, hE]
          split <;> omega
        · rw [tb_add y8 (by omega) (by omega) hb] at h2
          have h3 : Nat.testBit y p = true := by simpa [ez] using h2
          rw [cand p h1 ez h3]
          have := hoV_ub (T := G) np p h1 h3
          omega)
      have lo : hoV G y np + 1 ≤ hoV G (y + 2 ^ z) np := by
        have any : ∀ p, p < np → Nat.testBit y p = true → G (y - 2 ^ p) + 1 ≤ hoV G (y + 2 ^ z) np := fun p h1 h3 => by
          have ez : p ≠ z := fun e => by rw [e, hb] at h3; cases h3
          rw [← cand p h1 ez h3]
          exact hoV_ub np p h1 (by rw [tb_add y8 (by omega) (by omega) hb, h3]; rfl)
        rcases hoV_at (T := G) (y := y) np with g | ⟨p, h1, h2, h3⟩
        · have hl : Nat.log2 y < np := (Nat.log2_lt e).mpr hy
          have := any (Nat.log2 y) hl (Nat.testBit_log2 e)
          omega
        · rw [h3]; exact any p h1 h2
      rw [hE]
      omega
/-- all persons below n, and those of o -/
def hoS (net : Nat → Int32) (o : Nat) : Nat → Nat
  | 0 => o
  | n + 1 => if net n = 0 then hoS net o n + 2 ^ n else hoS net o n
def hoZ (net : Nat → Int32) : Nat → Nat
  | 0 => 0
  | n + 1 => if net n = 0 then hoZ net n + 1 else hoZ net n
theorem hoS_b {net : Nat → Int32} {o np : Nat} (hn : np ≤ 8) (ho : o < 2 ^ np) (hb : ∀ l, l < np → (Nat.testBit o l = true ↔ ¬ net l = 0)) : ∀ n, n ≤ np → hoS net o n < 2 ^ np ∧ (∀ i, i < np → Nat.testBit (hoS net o n) i = (decide (i < n) || Nat.testBit o i)) ∧ hoG np (fun y => smF net y np) (hoS net o n) = hoG np (fun y => smF net y np) o + hoZ net n
  | 0, _ => ⟨ho, fun i _ => by simp [hoS], rfl⟩
  | n + 1, h => by
    obtain ⟨h1, h2, h3⟩ := hoS_b hn ho hb n (by omega)
    have x8 := pw8 hn h1
    rw [hoS, hoZ]
    by_cases z : net n = 0
    · have on : Nat.testBit o n = false := by
        cases hh : Nat.testBit o n with
        | false => rfl
        | true => exact absurd z ((hb n (by omega)).mp hh)
      have bn : Nat.testBit (hoS net o n) n = false := by rw [h2 n (by omega), on]; simp
      rw [if_pos z, if_pos z]
      refine ⟨ad_lt hn h1 (by omega) bn, fun i hi => ?_, ?_⟩
      · rw [tb_add x8 (by omega) (by omega) bn, h2 i hi]
        by_cases e1 : i < n
        · simp [e1, show i < n + 1 by omega]
        · by_cases e2 : i = n
          · subst e2; simp
          · simp [e1, e2, show ¬ i < n + 1 by omega]
      · rw [hoG_add hn (by omega) z (hoS net o n + 1) (hoS net o n) (by omega) h1 bn, h3]; omega
    · have on : Nat.testBit o n = true := (hb n (by omega)).mpr z
      rw [if_neg z, if_neg z]
      refine ⟨h1, fun i hi => ?_, h3⟩
      rw [h2 i hi]
      by_cases e1 : i < n
      · simp [e1, show i < n + 1 by omega]
      · by_cases e2 : i = n
        · subst e2; simp [on]
        · simp [e1, show ¬ i < n + 1 by omega]
theorem hoG_full {net : Nat → Int32} {o np : Nat} (hn : np ≤ 8) (ho : o < 2 ^ np) (hb : ∀ l, l < np → (Nat.testBit o l = true ↔ ¬ net l = 0)) : hoG np (fun y => smF net y np) (2 ^ np - 1) = hoG np (fun y => smF net y np) o + hoZ net np := by
  obtain ⟨h1, h2, h3⟩ := hoS_b hn ho hb np (Nat.le_refl _)
  have : hoS net o np = 2 ^ np - 1 := Nat.eq_of_testBit_eq (fun i => by
    rw [Nat.testBit_two_pow_sub_one]
    by_cases hi : i < np
    · rw [h2 i hi]; simp [hi]
    · have : 2 ^ np ≤ 2 ^ i := Nat.pow_le_pow_right (by omega) (by omega)
      rw [Nat.testBit_lt_two_pow (show hoS net o np < 2 ^ i by omega)]; simp [hi])
  rw [← this, h3]
