/-! names told ahead -/
def fnd (w : Nat → Int64) (lo : Nat) (x : Int64) : Nat → Nat → Int32
  | 0, _ => -1
  | f + 1, i => if w (lo + i) = x then nI i else fnd w lo x f (i + 1)
theorem fnd_m {w : Nat → Int64} {lo : Nat} {x : Int64} : ∀ f i, i + f < 2 ^ 31 → (fnd w lo x f i = -1 ↔ ∀ k, i ≤ k → k < i + f → ¬ w (lo + k) = x)
  | 0, i, _ => ⟨fun _ k h1 h2 => absurd h1 (by omega), fun _ => rfl⟩
  | f + 1, i, h => by
    have IH := fnd_m (w := w) (lo := lo) (x := x) f (i + 1) (by omega)
    rw [fnd]
    by_cases z : w (lo + i) = x
    · rw [if_pos z]
      exact ⟨fun g => absurd g (nI_m1 (by omega)), fun g => absurd z (g i (by omega) (by omega))⟩
    · rw [if_neg z, IH]
      refine ⟨fun g k h1 h2 => ?_, fun g k h1 h2 => g k (by omega) (by omega)⟩
      by_cases y : i = k
      · subst y; exact z
      · exact g k (by omega) (by omega)
theorem fnd_s {w : Nat → Int64} {lo : Nat} {x : Int64} : ∀ f i, fnd w lo x f i = -1 ∨ ∃ k, i ≤ k ∧ k < i + f ∧ fnd w lo x f i = nI k ∧ w (lo + k) = x
  | 0, i => Or.inl rfl
  | f + 1, i => by
    rw [fnd]
    by_cases z : w (lo + i) = x
    · rw [if_pos z]; exact Or.inr ⟨i, by omega, by omega, rfl, z⟩
    · rw [if_neg z]
      rcases fnd_s (w := w) (lo := lo) (x := x) f (i + 1) with g | ⟨k, h1, h2, h3, h4⟩
      · exact Or.inl g
      · exact Or.inr ⟨k, by omega, by omega, h3, h4⟩
theorem fnd_c {g w : Nat → Int64} {lo n : Nat} {x : Int64} (hx : ¬ x = 0) : ∀ f i, (∀ k, i ≤ k → k < i + f → k < n → g (lo + k) = w (lo + k)) → (∀ k, n ≤ k → i ≤ k → k < i + f → g (lo + k) = 0) → fnd g lo x f i = fnd w lo x (min f (n - i)) i
  | 0, i, h1, h2 => by rw [show min 0 (n - i) = 0 by omega]; rfl
  | f + 1, i, h1, h2 => by
    have IH := fnd_c (n := n) hx f (i + 1) (fun k a b c => h1 k (by omega) (by omega) c) (fun k a b c => h2 k a (by omega) (by omega))
    by_cases z : i < n
    · rw [show min (f + 1) (n - i) = min f (n - (i + 1)) + 1 by omega, fnd, fnd, h1 i (by omega) (by omega) z, IH]
    · rw [show min (f + 1) (n - i) = 0 by omega]
      show (if g (lo + i) = x then nI i else fnd g lo x f (i + 1)) = -1
      rw [h2 i (by omega) (by omega) (by omega), if_neg (fun e => hx e.symm), IH, show min f (n - (i + 1)) = 0 by omega]; rfl
def nLo : Nat → Nat
  | 0 => 0
  | 1 => 8
  | 2 => 12
  | _ => 20
theorem nLo_s : ∀ k, k < 4 → mStarts k = nI (nLo k) := by decide
theorem Na_numberOf_loop {E : mEn} {d : Nat} {Q : mPost} {τ : mSt} {t a : Nat} {x : Int64} (ht : isT t) (ha : a < 3) : ∀ f i, nLo a + i + f = nLo (a + 1) → WP E d mNa_numberOf 18 [.ref (t + 1), .int (nI a), .long x, uu, .int (nI (nLo a + i))] [] τ Q = Q (some (.int (fnd (τ.2 (t + 2)) (nLo a) x f i))) τ
  | 0, i, e => by
    rw [bNa_numberOf_18 ht, nI_1, mOut_f (by omega) (by omega), nI_clamp (by omega), nLo_s _ (by omega), if_neg (by decide), if_pos (by rw [show nLo a + i = nLo (a + 1) by omega]; exact Int32.le_refl _), bNa_numberOf_57 ht]; rfl
  | f + 1, i, e => by
    have n20 : nLo (a + 1) ≤ 20 := by
      rcases (show a = 0 ∨ a = 1 ∨ a = 2 by omega) with rfl | rfl | rfl <;> decide
    rw [bNa_numberOf_18 ht, nI_1, mOut_f (by omega) (by omega), nI_clamp (by omega), nLo_s _ (by omega), if_neg (by decide), if_neg (nI_ge (by omega) (by omega)), bNa_numberOf_30 ht, mOut_f (by omega) (by omega), nI_clamp (by omega), if_neg (by decide), fnd]
    by_cases z : τ.2 (t + 2) (nLo a + i) = x
    · rw [ite_nn (by rw [lg_eq0]; exact z), bNa_numberOf_42 ht, mOut_f (by omega) (by omega), nI_clamp (by omega), nLo_s _ (by omega), if_neg (by decide), pk_sub (by omega), show nLo a + i - nLo a = i by omega, if_pos z]
    · rw [if_pos (by rw [lg_eq0]; exact z), bNa_numberOf_51 ht, nI_1, if_neg z]
      exact Na_numberOf_loop ht ha f (i + 1) (by omega)
theorem Na_numberOf {E : mEn} {d : Nat} {Q : mPost} {τ : mSt} {t a m : Nat} {x : Int64} {w : Nat → Int64} {u : Value} (ht : isT t) (ha : a < 3) (hx : ¬ x = 0) (hm : m ≤ nLo (a + 1) - nLo a) (hN : NRel τ t w (nLo a) m (nLo (a + 1) - nLo a)) : WP E d mNa_numberOf 0 [.ref (t + 1), .int (nI a), .long x, uu, u] [] τ Q = Q (some (.int (fnd w (nLo a) x m 0))) τ := by
  have le : nLo a ≤ nLo (a + 1) := by
    rcases (show a = 0 ∨ a = 1 ∨ a = 2 by omega) with rfl | rfl | rfl <;> decide
  have L := Na_numberOf_loop (E := E) (d := d) (Q := Q) (τ := τ) (x := x) ht ha (nLo (a + 1) - nLo a) 0 (by omega)
  have e0 : nI (nLo a) = nI (nLo a + 0) := rfl
  rw [bNa_numberOf_0 ht, if_neg (nI_pos (by omega)), bNa_numberOf_4 ht, if_pos (nI_le (by omega) (by omega)), bNa_numberOf_11 ht, mOut_f (by omega) (by omega), nI_clamp (by omega), nLo_s _ (by omega), if_neg (by decide), e0, L, fnd_c (n := m) hx _ _ (fun k _ _ h => (hN.1 k h).1) (fun k h1 _ h2 => hN.2 k h1 (by omega)), Nat.sub_zero, Nat.min_eq_right hm]
theorem Na_isTaken_loop {E : mEn} {d : Nat} {Q : mPost} {τ : mSt} {t : Nat} {x : Int64} (ht : isT t) : ∀ f i, i + f = 20 → WP E d mNa_isTaken 2 [.ref (t + 1), .long x, uu, .int (nI i)] [] τ Q = Q (some (.int (b2i (¬ fnd (τ.2 (t + 2)) 0 x f i = -1)))) τ
  | 0, i, e => by
    have e' : i = 20 := by omega
    subst e'
    rw [bNa_isTaken_2 ht, if_pos (Int32.le_refl _), bNa_isTaken_30 ht, b2i_f (fun g => g rfl)]
  | f + 1, i, e => by
    rw [bNa_isTaken_2 ht, if_neg (nI_ge (by omega) (by omega)), bNa_isTaken_11 ht, mOut_f (by omega) (by omega), nI_clamp (by omega), if_neg (by decide), fnd, Nat.zero_add]
    by_cases z : τ.2 (t + 2) i = x
    · rw [ite_nn (by rw [lg_eq0]; exact z), bNa_isTaken_22 ht, if_pos z, b2i_t (nI_m1 (by omega))]
    · rw [if_pos (by rw [lg_eq0]; exact z), bNa_isTaken_24 ht, nI_1, if_neg z]
      exact Na_isTaken_loop ht f (i + 1) (by omega)
/-- some person, oven or loaf has the name -/
def tkn (w : Nat → Int64) (np no nl : Nat) (x : Int64) : Prop := ¬ fnd w 0 x np 0 = -1 ∨ ¬ fnd w 8 x no 0 = -1 ∨ ¬ fnd w 12 x nl 0 = -1
theorem Na_isTaken {E : mEn} {d : Nat} {Q : mPost} {τ : mSt} {t np no nl : Nat} {x : Int64} {w : Nat → Int64} {u : Value} (ht : isT t) (hx : ¬ x = 0) (h1 : np ≤ 8) (h2 : no ≤ 4) (h3 : nl ≤ 8) (n1 : NRel τ t w 0 np 8) (n2 : NRel τ t w 8 no 4) (n3 : NRel τ t w 12 nl 8) [Decidable (tkn w np no nl x)] : WP E d mNa_isTaken 0 [.ref (t + 1), .long x, uu, u] [] τ Q = Q (some (.int (b2i (tkn w np no nl x)))) τ := by
  rw [bNa_isTaken_0 ht, show (0 : Int32) = nI 0 from rfl, Na_isTaken_loop ht 20 0 (by omega)]
  congr 3
  refine b2i_congr ?_
  unfold tkn
  rw [fnd_m _ _ (by omega), fnd_m _ _ (by omega), fnd_m _ _ (by omega), fnd_m _ _ (by omega)]
  constructor
  · intro g
    by_cases a : ∀ k, 0 ≤ k → k < 0 + np → ¬ w (0 + k) = x
    · by_cases b : ∀ k, 0 ≤ k → k < 0 + no → ¬ w (8 + k) = x
      · refine Or.inr (Or.inr (fun c => g (fun k _ hk => ?_)))
        rw [Nat.zero_add]
        by_cases k8 : k < 8
        · by_cases kn : k < np
          · have := (n1.1 k kn).1; rw [Nat.zero_add] at this; rw [this]
            have := a k (by omega) (by omega); rwa [Nat.zero_add] at this
          · have := n1.2 k (by omega) k8; rw [Nat.zero_add] at this; rw [this]; exact fun e => hx e.symm
        · by_cases k12 : k < 12
          · obtain ⟨j, rfl⟩ : ∃ j, k = 8 + j := ⟨k - 8, by omega⟩
            by_cases kn : j < no
            · rw [(n2.1 j kn).1]; exact b j (by omega) (by omega)
            · rw [n2.2 j (by omega) (by omega)]; exact fun e => hx e.symm
          · obtain ⟨j, rfl⟩ : ∃ j, k = 12 + j := ⟨k - 12, by omega⟩
            by_cases kn : j < nl
            · rw [(n3.1 j kn).1]; exact c j (by omega) (by omega)
            · rw [n3.2 j (by omega) (by omega)]; exact fun e => hx e.symm
      · exact Or.inr (Or.inl b)
    · exact Or.inl a
  · intro g c
    rcases g with g | g | g
    · exact g (fun k _ hk => by have := (n1.1 k (by omega)).1; rw [← this]; exact c (0 + k) (by omega) (by omega) |> fun h => by rwa [Nat.zero_add] at h)
    · exact g (fun k _ hk => by have := (n2.1 k (by omega)).1; rw [← this]; exact c (8 + k) (by omega) (by omega) |> fun h => by rwa [Nat.zero_add] at h)
    · exact g (fun k _ hk => by have := (n3.1 k (by omega)).1; rw [← this]; exact c (12 + k) (by omega) (by omega) |> fun h => by rwa [Nat.zero_add] at h)
