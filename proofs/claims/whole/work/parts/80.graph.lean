/-! rings: ways between persons, the shortest, the search -/
section GRAPH
variable {md : Nat → Bool} {g t : Nat → Nat} {nk : Nat}
def wk (md : Nat → Bool) (g t : Nat → Nat) (nk : Nat) : Nat → Nat → Nat → Prop
  | 0, u, v => u = v
  | n + 1, u, v => ∃ k, k < nk ∧ md k = true ∧ g k = u ∧ wk md g t nk n (t k) v
theorem wk_app : ∀ (n m u x v : Nat), wk md g t nk n u x → wk md g t nk m x v → wk md g t nk (n + m) u v
  | 0, m, u, x, v, h, h2 => by rw [Nat.zero_add, show u = x from h]; exact h2
  | n + 1, m, u, x, v, ⟨k, h1, h2, h3, h4⟩, h5 => by
    rw [Nat.add_right_comm]
    exact ⟨k, h1, h2, h3, wk_app n m (t k) x v h4 h5⟩
def dI (md : Nat → Bool) (g t : Nat → Nat) : Nat → Nat → Nat → Nat
  | 0, u, v => if u = v then 0 else 1000
  | k + 1, u, v => if md k = true ∧ g k = u ∧ t k = v then 1 else dI md g t k u v
def fw (D : Nat → Nat → Nat) : Nat → Nat → Nat → Nat
  | 0, u, v => D u v
  | b + 1, u, v => if fw D b u b + fw D b b v < fw D b u v then fw D b u b + fw D b b v else fw D b u v
theorem dI_b : ∀ k u v, dI md g t k u v ≤ 1000
  | 0, u, v => by rw [dI]; split <;> omega
  | k + 1, u, v => by rw [dI]; split; omega; exact dI_b k u v
theorem dI_d (hne : ∀ k, k < nk → g k ≠ t k) : ∀ k u, k ≤ nk → dI md g t k u u = 0
  | 0, u, _ => by rw [dI, if_pos rfl]
  | k + 1, u, h => by
    rw [dI, if_neg (fun x => hne k (by omega) (x.2.1.trans x.2.2.symm))]
    exact dI_d hne k u (by omega)
theorem dI_w : ∀ k u v, k ≤ nk → dI md g t k u v < 1000 → wk md g t nk (dI md g t k u v) u v
  | 0, u, v, _, h => by
    rw [dI] at h ⊢
    by_cases e : u = v
    · rw [if_pos e]; exact e
    · rw [if_neg e] at h; omega
  | k + 1, u, v, hk, h => by
    rw [dI] at h ⊢
    by_cases e : md k = true ∧ g k = u ∧ t k = v
    · rw [if_pos e]; exact ⟨k, by omega, e.1, e.2.1, e.2.2⟩
    · rw [if_neg e] at h ⊢
      exact dI_w k u v (by omega) h
theorem dI_e : ∀ n k, k < n → md k = true → dI md g t n (g k) (t k) ≤ 1
  | 0, k, h, _ => absurd h (by omega)
  | n + 1, k, h, hm => by
    rw [dI]
    split
    · omega
    · rename_i z
      by_cases e : k = n
      · subst e; exact absurd ⟨hm, rfl, rfl⟩ z
      · exact dI_e n k (by omega) hm
theorem fw_le {D : Nat → Nat → Nat} {b u v : Nat} : fw D (b + 1) u v ≤ fw D b u v ∧ fw D (b + 1) u v ≤ fw D b u b + fw D b b v := by
  rw [fw]; split <;> omega
theorem fw_mono {D : Nat → Nat → Nat} {u v : Nat} : ∀ b, fw D b u v ≤ D u v
  | 0 => Nat.le_refl _
  | b + 1 => Nat.le_trans fw_le.1 (fw_mono b)
theorem fw_d {D : Nat → Nat → Nat} (h : ∀ u, D u u = 0) (b u : Nat) : fw D b u u = 0 := by
  have := fw_mono (D := D) (u := u) (v := u) b
  rw [h] at this; omega
theorem fw_w {D : Nat → Nat → Nat} (h : ∀ u v, D u v < 1000 → wk md g t nk (D u v) u v) (hb : ∀ u v, D u v ≤ 1000) : ∀ b u v, fw D b u v < 1000 → wk md g t nk (fw D b u v) u v
  | 0, u, v, x => h u v x
  | b + 1, u, v, x => by
    rw [fw] at x ⊢
    by_cases e : fw D b u b + fw D b b v < fw D b u v
    · rw [if_pos e] at x ⊢
      exact wk_app _ _ u b v (fw_w h hb b u b (by omega)) (fw_w h hb b b v (by omega))
    · rw [if_neg e] at x ⊢
      exact fw_w h hb b u v x
/-- the row and the column of b stay -/
theorem fw_row {D : Nat → Nat → Nat} (h : ∀ u, D u u = 0) (b u : Nat) : fw D (b + 1) u b = fw D b u b ∧ fw D (b + 1) b u = fw D b b u := by
  constructor
  · rw [fw, fw_d h b b, if_neg (by omega)]
  · rw [fw, fw_d h b b, if_neg (by omega)]
theorem fw_tri {D : Nat → Nat → Nat} (h : ∀ u, D u u = 0) : ∀ b x u v, x < b → fw D b u v ≤ fw D b u x + fw D b x v
  | 0, x, u, v, hx => absurd hx (by omega)
  | b + 1, x, u, v, hx => by
    by_cases e : x = b
    · subst e
      rw [(fw_row h x u).1, (fw_row h x v).2]
      exact fw_le.2
    · have T := fw_tri h b x
      have l1 := @fw_le D b u v
      have e1 : fw D (b + 1) u x = fw D b u x ∨ fw D (b + 1) u x = fw D b u b + fw D b b x := by rw [fw]; split <;> simp
      have e2 : fw D (b + 1) x v = fw D b x v ∨ fw D (b + 1) x v = fw D b x b + fw D b b v := by rw [fw]; split <;> simp
      have t1 := T u v (by omega)
      have t2 := T u b (by omega)
      have t3 := T b v (by omega)
      have t4 := T b b (by omega)
      rcases e1 with e1 | e1 <;> rcases e2 with e2 | e2 <;> rw [e1, e2] <;> omega
/-- the ways that class and theory speak of -/
def DD (md : Nat → Bool) (g t : Nat → Nat) (nk : Nat) : Nat → Nat → Nat := fw (dI md g t nk) 8
theorem DD_tri (hne : ∀ k, k < nk → g k ≠ t k) {u x v : Nat} (hx : x < 8) : DD md g t nk u v ≤ DD md g t nk u x + DD md g t nk x v := fw_tri (fun u => dI_d hne nk u (Nat.le_refl _)) 8 x u v hx
theorem DD_d (hne : ∀ k, k < nk → g k ≠ t k) (u : Nat) : DD md g t nk u u = 0 := fw_d (fun u => dI_d hne nk u (Nat.le_refl _)) 8 u
theorem DD_w {u v : Nat} (h : DD md g t nk u v < 1000) : wk md g t nk (DD md g t nk u v) u v := fw_w (fun u v => dI_w nk u v (Nat.le_refl _)) (fun u v => dI_b nk u v) 8 u v h
theorem DD_b {u v : Nat} : DD md g t nk u v ≤ 1000 := Nat.le_trans (fw_mono 8) (dI_b nk u v)
theorem DD_e {k : Nat} (hk : k < nk) (hm : md k = true) : DD md g t nk (g k) (t k) ≤ 1 := Nat.le_trans (fw_mono 8) (dI_e nk k hk hm)
theorem DD_k (hne : ∀ k, k < nk → g k ≠ t k) (ht : ∀ k, k < nk → t k < 8) : ∀ n u v, wk md g t nk n u v → DD md g t nk u v ≤ n
  | 0, u, v, h => by rw [show u = v from h, DD_d hne]; omega
  | n + 1, u, v, ⟨k, h1, h2, h3, h4⟩ => by
    have := DD_k hne ht n (t k) v h4
    have e := DD_e (g := g) (t := t) h1 h2
    have tr := DD_tri (md := md) hne (u := u) (x := t k) (v := v) (ht k h1)
    rw [h3] at e
    omega
theorem DD_s (hne : ∀ k, k < nk → g k ≠ t k) (ht : ∀ k, k < nk → t k < 8) {n u v : Nat} (h : DD md g t nk u v = n + 1) (hn : n + 1 < 1000) : ∃ k, k < nk ∧ md k = true ∧ g k = u ∧ DD md g t nk (t k) v = n := by
  have w := DD_w (md := md) (g := g) (t := t) (nk := nk) (u := u) (v := v) (by omega)
  rw [h] at w
  obtain ⟨k, h1, h2, h3, h4⟩ := w
  have := DD_k hne ht n (t k) v h4
  have e := DD_e (g := g) (t := t) h1 h2
  have tr := DD_tri (md := md) hne (u := u) (x := t k) (v := v) (ht k h1)
  rw [h3] at e
  exact ⟨k, h1, h2, h3, by omega⟩
/-- no more than n different ones below n -/
theorem pig : ∀ (n m : Nat) (f : Nat → Nat), (∀ i, i < m → f i < n) → (∀ i j, i < m → j < m → f i = f j → i = j) → m ≤ n
  | 0, m, f, h, _ => Nat.le_of_not_lt (fun x => absurd (h 0 x) (by omega))
  | n + 1, m, f, h, hi => by
    by_cases e : ∃ i, i < m ∧ f i = n
    · obtain ⟨i0, h1, h2⟩ := e
      have := pig n (m - 1) (fun i => f (if i = i0 then m - 1 else i)) (fun i hi' => by
        have a := h (if i = i0 then m - 1 else i) (by split <;> omega)
        have b : f (if i = i0 then m - 1 else i) ≠ n := fun x => by
          have := hi _ i0 (by split <;> omega) h1 (x.trans h2.symm)
          split at this <;> omega
        omega) (fun i j x y z => by
        have := hi _ _ (by split <;> omega) (by split <;> omega) z
        split at this <;> split at this <;> omega)
      omega
    · have := pig n m f (fun i hi' => by
        have a := h i hi'
        have b : f i ≠ n := fun x => e ⟨i, hi', x⟩
        omega) hi
      omega
theorem DD_np (hne : ∀ k, k < nk → g k ≠ t k) {np : Nat} (hnp : np ≤ 8) (ht : ∀ k, k < nk → t k < np) {u v n : Nat} (hv : u < np) (h : DD md g t nk u v = n) (hn : n < 1000) : n + 1 ≤ np := by
  have key : ∀ n u, u < np → DD md g t nk u v = n → n < 1000 → ∃ f : Nat → Nat, ∀ i, i < n + 1 → f i < np ∧ DD md g t nk (f i) v = i := by
    intro n
    induction n with
    | zero => exact fun u hu h _ => ⟨fun _ => u, fun i hi => ⟨hu, by rw [h]; omega⟩⟩
    | succ n ih =>
      intro u hu h hn
      obtain ⟨k, h1, h2, h3, h4⟩ := DD_s hne (fun k hk => Nat.lt_of_lt_of_le (ht k hk) hnp) h hn
      obtain ⟨f, hf⟩ := ih (t k) (ht k h1) h4 (by omega)
      refine ⟨fun i => if i = n + 1 then u else f i, fun i hi => ?_⟩
      by_cases e : i = n + 1
      · subst e; simp only [if_true]; exact ⟨hu, h⟩
      · simp only [e, if_false]; exact hf i (by omega)
  obtain ⟨f, hf⟩ := key n u hv h hn
  exact pig np (n + 1) f (fun i hi => (hf i hi).1) (fun i j hi hj e => by rw [← (hf i hi).2, ← (hf j hj).2, e])
/-- the first that does it -/
def fsO (f : Nat → Option (List Nat)) : Nat → Nat → Option (List Nat)
  | 0, _ => none
  | j + 1, k => match f k with
    | some l => some (k :: l)
    | none => fsO f j (k + 1)
def gr (md : Nat → Bool) (g t : Nat → Nat) (nk k0 home : Nat) : Nat → Nat → Nat → Option (List Nat)
  | 0, a, _ => if a = home then some [] else none
  | r + 1, a, seen => if Nat.testBit seen a = true then none else fsO (fun k => if md k = true ∧ g k = a then gr md g t nk k0 home r (t k) (seen ||| 2 ^ a) else none) (nk - (k0 + 1)) (k0 + 1)
theorem fsO_some {f : Nat → Option (List Nat)} : ∀ j k l, fsO f j k = some l → ∃ i l', k ≤ i ∧ i < k + j ∧ f i = some l' ∧ l = i :: l'
  | 0, k, l, h => by rw [fsO] at h; cases h
  | j + 1, k, l, h => by
    rw [fsO] at h
    cases e : f k with
    | some l' =>
      rw [e] at h
      exact ⟨k, l', Nat.le_refl _, by omega, e, by injection h with h; exact h.symm⟩
    | none =>
      rw [e] at h
      obtain ⟨i, l', h1, h2, h3, h4⟩ := fsO_some j (k + 1) l h
      exact ⟨i, l', by omega, by omega, h3, h4⟩
theorem fsO_at {f : Nat → Option (List Nat)} {i : Nat} {l' : List Nat} (hi : f i = some l') : ∀ j k, k ≤ i → i < k + j → (∀ x, k ≤ x → x < i → f x = none) → fsO f j k = some (i :: l')
  | 0, k, h1, h2, _ => by omega
  | j + 1, k, h1, h2, h3 => by
    rw [fsO]
    by_cases e : k = i
    · subst e; rw [hi]
    · rw [h3 k (Nat.le_refl _) (by omega)]
      exact fsO_at hi j (k + 1) (by omega) (by omega) (fun x hx => h3 x (by omega))
theorem gr_w {k0 home : Nat} : ∀ r a seen l, gr md g t nk k0 home r a seen = some l → wk md g t nk r a home ∧ l.length = r
  | 0, a, seen, l, h => by
    rw [gr] at h
    by_cases e : a = home
    · rw [if_pos e] at h
      injection h with h
      subst h
      exact ⟨e, rfl⟩
    · rw [if_neg e] at h; cases h
  | r + 1, a, seen, l, h => by
    rw [gr] at h
    by_cases e : Nat.testBit seen a = true
    · rw [if_pos e] at h; cases h
    · rw [if_neg e] at h
      obtain ⟨i, l', h1, h2, h3, h4⟩ := fsO_some _ _ _ h
      by_cases z : md i = true ∧ g i = a
      · rw [if_pos z] at h3
        obtain ⟨w, hl⟩ := gr_w r (t i) _ l' h3
        exact ⟨⟨i, by omega, z.1, z.2, w⟩, by rw [h4, List.length_cons, hl]⟩
      · rw [if_neg z] at h3; cases h3
def fN (P : Nat → Bool) : Nat → Nat → Nat
  | 0, k => k
  | j + 1, k => if P k = true then k else fN P j (k + 1)
theorem fN_s {P : Nat → Bool} : ∀ j k, k ≤ fN P j k ∧ fN P j k ≤ k + j ∧ (fN P j k < k + j → P (fN P j k) = true) ∧ ∀ x, k ≤ x → x < fN P j k → P x = false
  | 0, k => ⟨Nat.le_refl _, Nat.le_refl _, fun h => absurd h (by rw [fN]; omega), fun x h1 h2 => absurd h2 (by rw [fN]; omega)⟩
  | j + 1, k => by
    rw [fN]
    by_cases e : P k = true
    · rw [if_pos e]; exact ⟨Nat.le_refl _, by omega, fun _ => e, fun x h1 h2 => absurd h2 (by omega)⟩
    · rw [if_neg e]
      obtain ⟨h1, h2, h3, h4⟩ := fN_s (P := P) j (k + 1)
      refine ⟨by omega, by omega, fun h => h3 (by omega), fun x hx1 hx2 => ?_⟩
      by_cases ex : x = k
      · subst ex; simpa using e
      · exact h4 x (by omega) hx2
theorem fN_lt {P : Nat → Bool} {n i : Nat} (hi : i < n) (h : P i = true) : fN P n 0 < n := by
  obtain ⟨h1, h2, h3, h4⟩ := fN_s (P := P) n 0
  refine Nat.lt_of_not_le (fun x => ?_)
  have := h4 i (by omega) (by omega)
  rw [h] at this; cases this
/-- the least promise from a that comes home in r more -/
def nw (md : Nat → Bool) (g t : Nat → Nat) (nk home a r : Nat) : Nat := fN (fun k => md k && decide (g k = a) && decide (DD md g t nk (t k) home = r)) nk 0
def gd (md : Nat → Bool) (g t : Nat → Nat) (nk home : Nat) : Nat → Nat → List Nat
  | 0, _ => []
  | r + 1, a => nw md g t nk home a r :: gd md g t nk home r (t (nw md g t nk home a r))
theorem nw_s (hne : ∀ k, k < nk → g k ≠ t k) (ht : ∀ k, k < nk → t k < 8) {home a r : Nat} (h : DD md g t nk a home = r + 1) (hr : r + 1 < 1000) : nw md g t nk home a r < nk ∧ md (nw md g t nk home a r) = true ∧ g (nw md g t nk home a r) = a ∧ DD md g t nk (t (nw md g t nk home a r)) home = r := by
  obtain ⟨k, h1, h2, h3, h4⟩ := DD_s hne ht h hr
  have hl : nw md g t nk home a r < nk := fN_lt h1 (by simp [h2, h3, h4])
  obtain ⟨-, -, h5, -⟩ := fN_s (P := fun k => md k && decide (g k = a) && decide (DD md g t nk (t k) home = r)) nk 0
  have := h5 (by show nw md g t nk home a r < 0 + nk; omega)
  simp only [Bool.and_eq_true, decide_eq_true_eq] at this
  exact ⟨hl, this.1.1, this.1.2, this.2⟩
/-- the search finds what the greedy way finds, on a shortest ring -/
theorem gr_gd {k0 home L : Nat} (hne : ∀ k, k < nk → g k ≠ t k) (ht : ∀ k, k < nk → t k < 8) (hg : ∀ k, k < nk → g k < 8) (hL8 : L < 1000) (hh : home < 8) (hk0 : g k0 = home) (hmin : ∀ k, k < nk → md k = true → L ≤ 1 + DD md g t nk (t k) (g k)) (hfst : ∀ k, k < k0 → k < nk → md k = true → L < 1 + DD md g t nk (t k) (g k))  (r : Nat) : ∀ a seen dp, dp + r = L → a < 8 → seen < 256 → Nat.testBit seen home = true → (∀ s, s < 8 → Nat.testBit seen s = true → ∃ i, i < nk ∧ md i = true ∧ g i = s ∧ 1 + DD md g t nk (t i) a ≤ dp) → DD md g t nk a home = r → gr md g t nk k0 home r a seen = some (gd md g t nk home r a) := by
  induction r with
  | zero =>
    intro a seen dp e ha hs h1 h2 h3
    have : a = home := by
      have w := DD_w (md := md) (g := g) (t := t) (nk := nk) (u := a) (v := home) (by omega)
      rw [h3] at w
      exact w
    rw [gr, if_pos this, gd]
  | succ r IH =>
    intro a seen dp e ha hs h1 h2 h3
    have notin : ¬ Nat.testBit seen a = true := fun x => by
      obtain ⟨i, i1, i2, i3, i4⟩ := h2 a ha x
      have := hmin i i1 i2
      rw [i3] at this
      omega
    obtain ⟨n1, n2, n3, n4⟩ := nw_s hne ht h3 (by omega)
    obtain ⟨ih, ih1, ih2, ih3, ih4⟩ := h2 home hh h1
    -- from home to a in at most dp
    have hda : DD md g t nk home a ≤ dp := by
      have e1 := DD_e (g := g) (t := t) ih1 ih2
      have tr := DD_tri (md := md) hne (u := home) (x := t ih) (v := a) (ht ih ih1)
      rw [ih3] at e1
      omega
    have low : ∀ k, k < nk → md k = true → g k = a → DD md g t nk (t k) home ≤ r → k0 < k ∧ DD md g t nk (t k) home = r := fun k k1 k2 k3 k4 => by
      have tr := DD_tri (md := md) hne (u := t k) (x := home) (v := a) hh
      have mk := hmin k k1 k2
      rw [k3] at mk
      have tr2 := DD_tri (md := md) hne (u := t ih) (x := a) (v := home) ha
      have e2 := DD_e (g := g) (t := t) k1 k2
      have tr3 := DD_tri (md := md) hne (u := a) (x := t k) (v := home) (ht k k1)
      rw [k3] at e2
      have mi := hmin ih ih1 ih2
      rw [ih3] at mi
      refine ⟨Nat.lt_of_not_le (fun x => ?_), by omega⟩
      rcases Nat.lt_or_eq_of_le x with y | y
      · have := hfst k y k1 k2
        rw [k3] at this
        omega
      · rw [y, hk0] at k3
        exact notin (k3 ▸ h1)
    have sN : ∀ s, s < 8 → Nat.testBit (seen ||| 2 ^ a) s = true → Nat.testBit seen s = true ∨ s = a := fun s hs' x => by
      rw [Nat.testBit_or, Nat.testBit_two_pow, Bool.or_eq_true, decide_eq_true_eq] at x
      exact x.imp id Eq.symm
    have s8 : seen ||| 2 ^ a < 256 := Nat.or_lt_two_pow (n := 8) hs (Nat.pow_lt_pow_right (by omega) ha)
    rw [gr, if_neg notin]
    refine fsO_at (i := nw md g t nk home a r) (l' := gd md g t nk home r (t (nw md g t nk home a r))) ?_ _ _ ?_ ?_ ?_
    · rw [if_pos ⟨n2, n3⟩]
      refine IH (t (nw md g t nk home a r)) (seen ||| 2 ^ a) (dp + 1) (by omega) (ht _ n1) s8 (by rw [Nat.testBit_or, h1]; rfl) (fun s hs' x => ?_) n4
      have e2 := DD_e (g := g) (t := t) n1 n2
      rw [n3] at e2
      rcases sN s hs' x with y | y
      · obtain ⟨i, i1, i2, i3, i4⟩ := h2 s hs' y
        have tr := DD_tri (md := md) hne (u := t i) (x := a) (v := t (nw md g t nk home a r)) ha
        exact ⟨i, i1, i2, i3, by omega⟩
      · subst y
        exact ⟨nw md g t nk home s r, n1, n2, n3, by rw [DD_d hne]; omega⟩
    · exact (low _ n1 n2 n3 (by omega)).1
    · have := (low _ n1 n2 n3 (by omega)).1
      omega
    · intro x x1 x2
      by_cases z : md x = true ∧ g x = a
      · rw [if_pos z]
        cases e : gr md g t nk k0 home r (t x) (seen ||| 2 ^ a) with
        | none => rfl
        | some l =>
          exfalso
          have w := (gr_w r (t x) _ l e).1
          have dk := DD_k hne ht r (t x) home w
          have lw := low x (by omega) z.1 z.2 dk
          obtain ⟨-, -, -, h5⟩ := fN_s (P := fun k => md k && decide (g k = a) && decide (DD md g t nk (t k) home = r)) nk 0
          have := h5 x (by omega) x2
          simp [z.1, z.2, lw.2] at this
      · rw [if_neg z]
end GRAPH
