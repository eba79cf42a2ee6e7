theorem rn_stop {p : Int32 → Bool} {T : Nat → Int32} : ∀ f i, rn p T f i < i + f → p (T (rn p T f i)) = false
  | 0, i, h => absurd h (by rw [rn]; omega)
  | f + 1, i, h => by
    rw [rn] at h ⊢
    split at h
    · next z => rw [if_pos z]; exact rn_stop f (i + 1) (by omega)
    · next z => rw [if_neg z]; simpa using z
theorem pl_ge {T : Nat → Int32} {n q : Nat} : q ≤ pl T n q := rn_ge _ _
theorem pl_le {T : Nat → Int32} {n q : Nat} (h : q ≤ n) : pl T n q ≤ n := by have := rn_le (p := cB) (T := T) (n - q) q; unfold pl; omega
theorem wE_le {T : Nat → Int32} {n q : Nat} (h : pl T n q ≤ n) : wE T n q ≤ n := by have := rn_le (p := cL) (T := T) (n - pl T n q) (pl T n q); unfold wE; omega
theorem dE_le {T : Nat → Int32} {n q : Nat} (h : pl T n q ≤ n) : dE T n q ≤ n := by have := rn_le (p := cD) (T := T) (n - pl T n q) (pl T n q); unfold dE; omega
theorem wE_ge {T : Nat → Int32} {n q : Nat} : pl T n q ≤ wE T n q := rn_ge _ _
theorem dE_ge {T : Nat → Int32} {n q : Nat} : pl T n q ≤ dE T n q := rn_ge _ _
theorem To_advance {E : mEn} {d : Nat} {Q : mPost} {τ : mSt} {T : Nat → Int32} {n q : Nat} {u1 u2 : Value} (h7 : τ.1 7 = T) (h3 : τ.1 6 3 = nI n) (h6 : τ.1 6 6 = nI q) (hn : n ≤ 900) (hq : q ≤ n) (hQ : ∀ υ, qt S6 τ υ → CT υ T n q → Q none υ) : WP E (d + 1) mTo_advance 0 [.ref 6, u1, u2] [] τ Q := by
  have p1 := pl_le (T := T) hq
  rw [bTo_advance_0, h6, To_sk h7 h3 hn (n - q) q (by omega), bTo_advance_41, show rn cB T (n - q) q = pl T n q from rfl]
  have eb : bh T n q = if n ≤ pl T n q then pl T n q else if cL (T (pl T n q)) then wE T n q else if cD (T (pl T n q)) then dE T n q else pl T n q + 1 := rfl
  have ek : kd T n q = if n ≤ pl T n q then 0 else if cL (T (pl T n q)) then 1 else if cD (T (pl T n q)) then (if 4 < dE T n q - pl T n q then 4 else 2) else if cS (T (pl T n q)) then 3 else 4 := rfl
  have w1 := wE_le p1
  have w2 := wE_ge (T := T) (n := n) (q := q)
  have v1 := dE_le p1
  have v2 := dE_ge (T := T) (n := n) (q := q)
  have ew : wE T n q = rn cL T (n - pl T n q) (pl T n q) := rfl
  have ed : dE T n q = rn cD T (n - pl T n q) (pl T n q) := rfl
  have hCT : ∀ υ, CT υ T n q = (υ.1 6 4 = nI (kd T n q) ∧ υ.1 6 5 = nI (pl T n q) ∧ υ.1 6 6 = nI (bh T n q) ∧ (kd T n q = 2 → υ.1 6 7 = nI (nn T (pl T n q) (bh T n q - pl T n q))) ∧ (kd T n q = 3 → υ.1 6 7 = T (pl T n q)) ∧ (kd T n q = 1 → υ.2 6 8 = if 8 < bh T n q - pl T n q then 0 else lN (wn T (pl T n q) (bh T n q - pl T n q)))) := fun υ => rfl
  generalize pl T n q = p at *
  generalize wE T n q = e at *
  generalize dE T n q = g at *
  generalize bh T n q = b at *
  generalize kd T n q = k at *
  have q1 : qt S6 τ (sL (sI (sI τ 6 5 (nI p)) 6 6 (nI p)) 6 8 0) := qt_sL (qt_sI (qt_sI qt_rf rfl) rfl) rfl
  have m3 : (sL (sI (sI τ 6 5 (nI p)) 6 6 (nI p)) 6 8 0).1 6 3 = nI n := h3
  have m5 : (sL (sI (sI τ 6 5 (nI p)) 6 6 (nI p)) 6 8 0).1 6 5 = nI p := rfl
  have m7 : (sL (sI (sI τ 6 5 (nI p)) 6 6 (nI p)) 6 8 0).1 7 = T := h7
  have m6 : (sL (sI (sI τ 6 5 (nI p)) 6 6 (nI p)) 6 8 0).1 6 6 = nI p := rfl
  generalize sL (sI (sI τ 6 5 (nI p)) 6 6 (nI p)) 6 8 0 = φ at *
  rw [m3]
  by_cases z : n ≤ p
  · rw [if_pos z] at eb ek
    subst eb ek
    rw [if_neg (nI_nlt z (by omega)), bTo_advance_64]
    refine hQ _ (qt_sI q1 rfl) ?_
    rw [hCT]
    exact ⟨rfl, m5, m6, fun h => absurd h (by decide), fun h => absurd h (by decide), fun h => absurd h (by decide)⟩
  rw [if_neg z] at eb ek
  rw [if_pos (nI_lt (by omega) (by omega)), bTo_advance_70, mOut_f (by omega) (by omega), nI_clamp (by omega), m7, if_neg (by decide)]
  by_cases l : cL (T p) = true
  · rw [if_pos l] at eb ek
    subst eb ek
    have l' := l
    simp only [cL, Bool.and_eq_true, Bool.not_eq_true', decide_eq_false_iff_not] at l'
    rw [if_neg l'.1, bTo_advance_83, if_neg l'.2, bTo_advance_89, bTo_cutWord_0, m5]
    have W := To_word_loop (E := E) (d := d) (Q := fun r σ' => WP E (d + 1) mTo_advance 93 [.ref 6, .int (nI p), .int (T p)] (r.toList ++ []) σ' Q) (p := p) m7 m3 hn (n - p) 0 (by omega)
    rw [show lN (wn T p 0) = 0 from rfl, Nat.add_zero, ← ew] at W
    rw [W, bTo_cutWord_62, sI_n (by omega), m5, pk_sub w2]
    have fin : ∀ x : Int64, (x = if 8 < b - p then 0 else lN (wn T p (b - p))) → WP E d mTo_cutWord 84 [.ref 6, .long (lN (wn T p (b - p))), uu, .int (nI b)] [.long x, .ref 6] (sI φ 6 4 1) (fun r σ' => WP E (d + 1) mTo_advance 93 [.ref 6, .int (nI p), .int (T p)] (r.toList ++ []) σ' Q) := fun x ex => by
      rw [bTo_cutWord_84, tl_n, bTo_advance_93, bTo_advance_160]
      refine hQ _ (qt_sI (qt_sL (qt_sI q1 rfl) rfl) rfl) ?_
      rw [hCT]
      exact ⟨rfl, m5, rfl, fun h => absurd h (by decide), fun h => absurd h (by decide), fun _ => ex⟩
    by_cases y : 8 < b - p
    · rw [if_pos (nI_lt y (by omega)), bTo_cutWord_83]
      exact fin 0 (by rw [if_pos y])
    · rw [if_neg (nI_nlt (by omega) (by omega)), bTo_cutWord_79]
      exact fin _ (by rw [if_neg y])
  · rw [if_neg l] at eb ek
    have A : WP E (d + 1) mTo_advance 96 [.ref 6, .int (nI p), .int (T p)] [] φ Q → (if T p < nI 97 then WP E (d + 1) mTo_advance 96 [.ref 6, .int (nI p), .int (T p)] [] φ Q else WP E (d + 1) mTo_advance 83 [.ref 6, .int (nI p), .int (T p)] [] φ Q) := fun h => by
      by_cases y : T p < nI 97
      · rw [if_pos y]; exact h
      · rw [if_neg y, bTo_advance_83, if_pos (by simp only [cL, y, decide_false, Bool.not_false, Bool.true_and, Bool.not_eq_true', decide_eq_false_iff_not, Classical.not_not] at l; exact l)]; exact h
    refine A ?_
    by_cases dd : cD (T p) = true
    · rw [if_pos dd] at eb ek
      subst eb ek
      have l' := dd
      simp only [cD, Bool.and_eq_true, Bool.not_eq_true', decide_eq_false_iff_not] at l'
      rw [bTo_advance_96, if_neg l'.1, bTo_advance_102, if_neg l'.2, bTo_advance_108, bTo_cutNumber_0, m5]
      have W := To_num_loop (E := E) (d := d) (Q := fun r σ' => WP E (d + 1) mTo_advance 112 [.ref 6, .int (nI p), .int (T p)] (r.toList ++ []) σ' Q) (p := p) m7 m3 m5 hn (n - p) 0 (by omega)
      rw [show nI (nn T p 0) = 0 from rfl, Nat.add_zero, ← ed] at W
      rw [W, bTo_cutNumber_72, m5, pk_sub v2]
      by_cases y : 4 < b - p
      · rw [if_pos (nI_lt y (by omega)), bTo_cutNumber_87, bTo_cutNumber_88, tl_n, bTo_advance_112, bTo_advance_160]
        refine hQ _ (qt_sI (qt_sI (qt_sI q1 rfl) rfl) rfl) ?_
        rw [hCT, if_pos y]
        exact ⟨rfl, m5, rfl, fun h => absurd h (by decide), fun h => absurd h (by decide), fun h => absurd h (by decide)⟩
      · rw [if_neg (nI_nlt (by omega) (by omega)), bTo_cutNumber_83, bTo_cutNumber_88, tl_n, bTo_advance_112, bTo_advance_160]
        refine hQ _ (qt_sI (qt_sI (qt_sI q1 rfl) rfl) rfl) ?_
        rw [hCT, if_neg y]
        exact ⟨rfl, m5, rfl, fun h => rfl, fun h => absurd h (by decide), fun h => absurd h (by decide)⟩
    · rw [if_neg dd] at eb ek
      subst eb
      have B : WP E (d + 1) mTo_advance 115 [.ref 6, .int (nI p), .int (T p)] [] φ Q → WP E (d + 1) mTo_advance 96 [.ref 6, .int (nI p), .int (T p)] [] φ Q := fun h => by
        rw [bTo_advance_96]
        by_cases y : T p < nI 48
        · rw [if_pos y]; exact h
        · rw [if_neg y, bTo_advance_102, if_pos (by simp only [cD, y, decide_false, Bool.not_false, Bool.true_and, Bool.not_eq_true', decide_eq_false_iff_not, Classical.not_not] at dd; exact dd)]; exact h
      refine B ?_
      have fin : ∀ x : Int32, x = nI k → WP E (d + 1) mTo_advance 145 [.ref 6, .int (nI p), .int (T p)] [.int x, .ref 6] φ Q := fun x ex => by
        rw [bTo_advance_145, bTo_advance_160, nI_1]
        refine hQ _ (qt_sI (qt_sI (qt_sI q1 rfl) rfl) rfl) ?_
        rw [hCT]
        refine ⟨ex, m5, rfl, fun h => ?_, fun h => rfl, fun h => ?_⟩
        · rw [h] at ek; split at ek <;> omega
        · rw [h] at ek; split at ek <;> omega
      rw [bTo_advance_115, bTo_advance_122, bTo_advance_128, bTo_advance_134, bTo_advance_140, bTo_advance_144]
      by_cases y1 : T p = nI 59
      · rw [if_pos y1]; exact fin _ (by rw [ek, if_pos (by simp [cS, y1])])
      rw [if_neg y1]
      by_cases y2 : T p = nI 60
      · rw [if_pos y2]; exact fin _ (by rw [ek, if_pos (by simp [cS, y2])])
      rw [if_neg y2]
      by_cases y3 : T p = nI 62
      · rw [if_pos y3]; exact fin _ (by rw [ek, if_pos (by simp [cS, y3])])
      rw [if_neg y3]
      by_cases y4 : T p = nI 61
      · rw [ite_nn y4]; exact fin _ (by rw [ek, if_pos (by simp [cS, y4])])
      rw [if_pos y4]; exact fin _ (by rw [ek, if_neg (by simp [cS, y1, y2, y3, y4])])
