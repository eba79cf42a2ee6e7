/-! the class's draft grows -/
def updL (f : Nat → Int64) (k : Nat) (x : Int64) : Nat → Int64 := fun j => if j = k then x else f j
theorem updL_e {f : Nat → Int64} {k : Nat} {x : Int64} : updL f k x k = x := if_pos rfl
theorem updL_n {f : Nat → Int64} {k j : Nat} {x : Int64} (h : j ≠ k) : updL f k x j = f j := if_neg h
theorem LRel_mono {σ : mSt} {t : Nat} {c : Nat → Int32} {np no np' no' l : Nat} (h : LRel σ t c np no l) (h1 : np ≤ np') (h2 : no ≤ no') : LRel σ t c np' no' l := by
  obtain ⟨⟨a1, p, a2, a3⟩, ⟨b1, b2⟩, b3, b4, b5, b6⟩ := h
  refine ⟨⟨a1, p, by omega, a3⟩, ⟨b1, ?_⟩, b3, b4, b5, b6⟩
  rcases b2 with b2 | ⟨k, c1, c2⟩
  · exact Or.inl b2
  · exact Or.inr ⟨k, by omega, c2⟩
theorem PRel_mono {σ : mSt} {t : Nat} {c : Nat → Int32} {np nl np' nl' k : Nat} (h : PRel σ t c np nl k) (h1 : np ≤ np') (h2 : nl ≤ nl') : PRel σ t c np' nl' k := by
  obtain ⟨a1, ⟨a2, l, a3, a4⟩, ⟨a5, p, a6, a7⟩, ⟨b5, p', b6, b7⟩, b8⟩ := h
  exact ⟨a1, ⟨a2, l, by omega, a4⟩, ⟨a5, p, by omega, a7⟩, ⟨b5, p', by omega, b7⟩, b8⟩
theorem Na_give {E : mEn} {d : Nat} {Q : mPost} {τ : mSt} {t a k : Nat} {x : Int64} {u : Value} (ht : isT t) (ha : a < 3) (hk : nLo a + k < nLo (a + 1)) : WP E d mNa_give 0 [.ref (t + 1), .int (nI a), .int (nI k), .long x, uu, u] [] τ Q = Q none (sL τ (t + 2) (nLo a + k) x) := by
  have n20 : nLo (a + 1) ≤ 20 := by
    rcases (show a = 0 ∨ a = 1 ∨ a = 2 by omega) with rfl | rfl | rfl <;> decide
  rw [bNa_give_0 ht, if_neg (nI_pos (by omega)), bNa_give_4 ht, if_neg (nI_nlt (by omega) (by omega)), bNa_give_9 ht, if_pos (by rw [show (0 : Int32) = nI 0 from rfl]; exact nI_le (by omega) (by omega)), bNa_give_14 ht, mOut_f (by omega) (by omega), nI_1, mOut_f (by omega) (by omega), nI_clamp (by omega), nI_clamp (by omega), nLo_s _ (by omega), nLo_s _ (by omega), nI_add, if_neg (by decide), if_neg (by decide), if_neg (nI_ge (by omega) (by omega)), bNa_give_35 ht, mOut_f (by omega) (by omega), nI_clamp (by omega), if_neg (by decide), bNa_give_43 ht]
/-- names, one more -/
theorem NRel_s {σ τ : mSt} {t lo n top : Nat} {w : Nat → Int64} {x : Int64} (h : NRel σ t w lo n top) (hx : ¬ x = 0) (hn : n < top) (e : ∀ k, τ.2 (t + 2) k = updL (σ.2 (t + 2)) (lo + n) x k) : NRel τ t (updL w (lo + n) x) lo (n + 1) top := by
  refine ⟨fun k hk => ?_, fun k h1 h2 => ?_⟩
  · rw [e]
    by_cases z : k = n
    · subst z; rw [updL_e, updL_e]; exact ⟨rfl, hx⟩
    · rw [updL_n (by omega), updL_n (by omega)]; exact h.1 k (by omega)
  · rw [e, updL_n (by omega)]; exact h.2 k (by omega) h2
theorem NRel_o {σ τ : mSt} {t lo n top z : Nat} {w : Nat → Int64} {x : Int64} (h : NRel σ t w lo n top) (hn : n ≤ top) (hz : z < lo ∨ lo + top ≤ z) (e : ∀ k, τ.2 (t + 2) k = updL (σ.2 (t + 2)) z x k) : NRel τ t (updL w z x) lo n top := by
  refine ⟨fun k hk => ?_, fun k h1 h2 => ?_⟩
  · rw [e, updL_n (by omega), updL_n (by omega)]; exact h.1 k (by omega)
  · rw [e, updL_n (by omega)]; exact h.2 k (by omega) h2
def cP (c : Nat → Int32) (np : Nat) (a : Int32) : Nat → Int32 := upd (upd c (6 + np) a) 0 (nI (np + 1))
theorem Tw_addPerson {E : mEn} {d : Nat} {Q : mPost} {σ : mSt} {t np no nl nk dy : Nat} {c : Nat → Int32} {w : Nat → Int64} {x : Int64} {a : Int32} (ht : isT t) (hT : TRel σ t c w np no nl nk dy) (h8 : np < 8) (hx : ¬ x = 0) (z1 : c (14 + np) = 0) (z2 : c (22 + np) = 0) (z3 : c 322 = 0) (hQ : ∀ υ, qt (STc t) σ υ → TRel υ t (cP c np a) (updL w np x) (np + 1) no nl nk dy → (∀ k, υ.1 (t + 9) k = σ.1 (t + 9) k) → υ.1 t 17 = σ.1 t 17 → Q none υ) : WP E (d + 1) mTw_addPerson 0 [.ref t, .long x, uu, .int a] [] σ Q := by
  obtain ⟨⟨b1, b2, b3, b4, b5⟩, ⟨t1, c1⟩, ⟨t2, c2⟩, ⟨t3, c3⟩, ⟨t4, c4⟩, ⟨t5, c5⟩, ⟨t6, c6⟩, gP, gO, gL, gB, gK, ⟨n1, n2, n3⟩, gD⟩ := hT
  have G := Na_give (E := E) (d := d) (Q := fun r σ' => WP E (d + 1) mTw_addPerson 30 [.ref t, .long x, uu, .int a] (r.toList ++ []) σ' Q) (τ := σ) (t := t) (a := 0) (k := np) (x := x) (u := uu) ht (by omega) (by show 0 + np < 8; omega)
  rw [show nI 0 = 0 from rfl, show nLo 0 + np = np from Nat.zero_add _, tl_n] at G
  rw [bTw_addPerson_0 ht, t1, if_neg (nI_pos (by omega)), bTw_addPerson_7 ht, t1, if_pos (nI_lt h8 (by omega)), bTw_addPerson_17 ht, t1, G, bTw_addPerson_30 ht]
  simp (disch := omega) only [sI_n, sL_r1, t1, mOut_f, nI_clamp]
  rw [if_neg (by decide), if_neg (by decide), if_neg (by decide), bTw_addPerson_60 ht]
  simp (disch := omega) only [sI_n, sL_r1, t1, nI_1]
  generalize hυ : sI (sI (sI (sI (sL σ (t + 2) np x) (t + 15) np a) (t + 16) np 0) (t + 17) np 0) t 13 (nI (np + 1)) = υ
  have r1 : ∀ j k, (j ≠ 0 ∨ k ≠ 13) → ((j ≠ 15 ∧ j ≠ 16 ∧ j ≠ 17) ∨ k ≠ np) → υ.1 (t + j) k = σ.1 (t + j) k := fun j k x1 x2 => by
    subst hυ
    simp (disch := omega) only [sI_n, sL_r1]
  have r0 : ∀ k, k ≠ 13 → υ.1 t k = σ.1 t k := fun k x1 => r1 0 k (by omega) (by omega)
  have r2 : ∀ k, υ.2 (t + 2) k = updL (σ.2 (t + 2)) (0 + np) x k := fun k => by
    subst hυ
    rw [Nat.zero_add]
    show (sL σ (t + 2) np x).2 (t + 2) k = _
    by_cases z : k = np
    · subst z; rw [sL_e, updL_e]
    · rw [sL_n (Or.inr z), updL_n z]
  have ec : ∀ j, j ≠ 0 → j ≠ 6 + np → cP c np a j = c j := fun j x1 x2 => by unfold cP; rw [upd_n x1, upd_n x2]
  refine hQ υ ?_ ⟨⟨by omega, b2, b3, b4, b5⟩, ⟨?_, upd_e⟩, ⟨?_, ?_⟩, ⟨?_, ?_⟩, ⟨?_, ?_⟩, ⟨?_, ?_⟩, ⟨?_, ?_⟩, fun p hp => ?_, fun k hk => ?_, fun l hl => ?_, ?_, fun k hk => ?_, ⟨?_, ?_, ?_⟩, ?_⟩ (fun k => r1 9 k (by omega) (by omega)) (r0 17 (by omega))
  · subst hυ
    refine qt_sI (qt_sI (qt_sI (qt_sI (qt_sL qt_rf ?_) ?_) ?_) ?_) ?_ <;> simp only [STc, Bool.and_eq_true, decide_eq_true_eq] <;> omega
  · subst hυ; exact sI_e
  · rw [r0 14 (by omega)]; exact t2
  · rw [ec 1 (by omega) (by omega)]; exact c2
  · rw [r0 15 (by omega)]; exact t3
  · rw [ec 2 (by omega) (by omega)]; exact c3
  · rw [r1 3 8 (by omega) (by omega)]; exact t4
  · rw [ec 3 (by omega) (by omega)]; exact c4
  · rw [r0 16 (by omega)]; exact t5
  · rw [ec 4 (by omega) (by omega)]; exact c5
  · rw [r0 18 (by omega), ec 5 (by omega) (by omega)]; exact t6
  · rw [ec 5 (by omega) (by omega)]; exact c6
  · by_cases z : p = np
    · subst z
      have e6 : cP c p a (6 + p) = a := by unfold cP; rw [upd_n (by omega), upd_e]
      rw [e6, ec _ (by omega) (by omega), ec _ (by omega) (by omega), z1, z2]
      subst hυ
      refine ⟨?_, ?_, ?_⟩
      · rw [sI_n (by omega), sI_n (by omega), sI_n (by omega), sI_e]
      · rw [sI_n (by omega), sI_n (by omega), sI_e]
      · rw [sI_n (by omega), sI_e]
    · rw [r1 15 p (by omega) (by omega), r1 16 p (by omega) (by omega), r1 17 p (by omega) (by omega), ec _ (by omega) (by omega), ec _ (by omega) (by omega), ec _ (by omega) (by omega)]
      exact gP p (by omega)
  · rw [r1 18 k (by omega) (by omega), ec _ (by omega) (by omega)]; exact gO k hk
  · exact LRel_mono (LRel_c (gL l hl) (fun j x1 x2 => r1 j l (by omega) (by omega)) (by rw [r0 17 (by omega)]) (fun i x1 x2 _ => ec i (by omega) (by omega)) (by omega)) (by omega) (by omega)
  · rw [r0 17 (by omega)]; exact gB
  · exact PRel_mono (PRel_c (gK k hk) (fun j x1 x2 => r1 j k (by omega) (by omega)) (fun j hj => ec _ (by omega) (by omega))) (by omega) (by omega)
  · have := NRel_s n1 hx h8 r2; rwa [Nat.zero_add] at this
  · rw [Nat.zero_add] at r2; exact NRel_o n2 b2 (by omega) r2
  · rw [Nat.zero_add] at r2; exact NRel_o n3 b3 (by omega) r2
  · refine ⟨?_, Or.inl ?_⟩
    · rw [r1 12 5 (by omega) (by omega), ec _ (by omega) (by omega)]; exact gD.1
    · rw [ec _ (by omega) (by omega)]; exact z3
