/-! days, pure: what was read is what both hold -/
theorem pName_lt {T : Nat → Int32} {n lo m q v q' : Nat} {w : Nat → Int64} {gv : Int32} (hm : m ≤ 8) (h : pName T n w lo m gv q = .ok (v, q')) : v < m := by
  unfold pName at h
  by_cases z : isN T n q = true
  · rw [if_pos z] at h
    by_cases y : fnd w lo (nmL T n q) m 0 = -1
    · rw [if_pos y] at h; exact absurd h (by simp)
    · rw [if_neg y] at h
      by_cases x : fnd w lo (nmL T n q) m 0 = gv
      · rw [if_pos x] at h; exact absurd h (by simp)
      · rw [if_neg x] at h
        have e' : (fnd w lo (nmL T n q) m 0).toNatClampNeg = v := congrArg Prod.fst (Except.ok.inj h)
        rcases fnd_s (w := w) (lo := lo) (x := nmL T n q) m 0 with g | ⟨k, -, kn, ek, -⟩
        · exact absurd g y
        · rw [ek, nI_clamp (by omega)] at e'
          omega
  · rw [if_neg z] at h; exact absurd h (by simp)
theorem pPt_ok {T : Nat → Int32} {n np nl q q' s l p r f : Nat} {w : Nat → Int64} (n8 : np ≤ 8) (l8 : nl ≤ 8) (h : pPt T n w np nl q = .ok ((s, l, p, r, f), q')) : 1 ≤ s ∧ s ≤ 99 ∧ l < nl ∧ p < np ∧ r < np ∧ p ≠ r ∧ f ≤ 999 := by
  unfold pPt at h
  cases e0 : pNum T n 1 99 q with
  | error x => rw [e0] at h; exact absurd h (by simp)
  | ok v0 =>
  obtain ⟨s1, q1⟩ := v0
  rw [e0] at h
  dsimp only at h
  cases e1 : pWd T n 11 q1 with
  | error x => rw [e1] at h; exact absurd h (by simp)
  | ok q2 =>
  rw [e1] at h
  dsimp only at h
  cases e2 : pName T n w 12 nl (-1) q2 with
  | error x => rw [e2] at h; exact absurd h (by simp)
  | ok v2 =>
  obtain ⟨l1, q3⟩ := v2
  rw [e2] at h
  dsimp only at h
  cases e3 : pWd T n 12 q3 with
  | error x => rw [e3] at h; exact absurd h (by simp)
  | ok q4 =>
  rw [e3] at h
  dsimp only at h
  cases e4 : pName T n w 0 np (-1) q4 with
  | error x => rw [e4] at h; exact absurd h (by simp)
  | ok v4 =>
  obtain ⟨p1, q5⟩ := v4
  rw [e4] at h
  dsimp only at h
  cases e5 : pWd T n 13 q5 with
  | error x => rw [e5] at h; exact absurd h (by simp)
  | ok q6 =>
  rw [e5] at h
  dsimp only at h
  cases e6 : pName T n w 0 np (nI p1) q6 with
  | error x => rw [e6] at h; exact absurd h (by simp)
  | ok v6 =>
  obtain ⟨r1, q7⟩ := v6
  rw [e6] at h
  dsimp only at h
  cases e7 : pOpt T n 14 999 q7 with
  | error x => rw [e7] at h; exact absurd h (by simp)
  | ok v7 =>
  obtain ⟨f1, q8⟩ := v7
  rw [e7] at h
  dsimp only at h
  simp only [Except.ok.injEq, Prod.mk.injEq] at h
  obtain ⟨⟨rfl, rfl, rfl, rfl, rfl⟩, rfl⟩ := h
  have a1 := pNum_le e0
  have a2 := pName_ne n8 e6
  exact ⟨a1.1, a1.2, pName_lt l8 e2, pName_lt n8 e4, pName_lt n8 e6, fun g => a2 (by rw [g]), pOpt_le e7⟩
theorem seg_cc {σ τ : mSt} {t : Nat} {c c' : Nat → Int32} {np no nl : Nat} : ∀ (f s e r r' : Nat), (∀ k, r * 7 ≤ k → k < r' * 7 → τ.1 (t + 13) k = σ.1 (t + 13) k) → (∀ j, 324 + 9 * s ≤ j → j < 324 + 9 * e → c' j = c j) → seg σ t c np no nl f s e r r' → seg τ t c' np no nl f s e r r'
  | 0, s, e, r, r', _, _, g => g
  | f + 1, s, e, r, r', h1, h2, g => by
    rcases g with g | ⟨g1, g2, g3, g4⟩
    · exact Or.inl g
    · have C8 : ∀ j, j ≤ 8 → c' (324 + 9 * s + j) = c (324 + 9 * s + j) := fun j hj => h2 _ (by omega) (by omega)
      have F6 : ∀ j, j ≤ 6 → τ.1 (t + 13) (r * 7 + j) = σ.1 (t + 13) (r * 7 + j) := fun j hj => h1 _ (by omega) (by omega)
      have c0 : c' (324 + 9 * s) = c (324 + 9 * s) := C8 0 (by omega)
      refine Or.inr ⟨g1, g2, ?_, ?_⟩
      · unfold stepRow at g3 ⊢
        dsimp only at g3 ⊢
        simp only [C8 0 (by omega), C8 1 (by omega), C8 2 (by omega), C8 3 (by omega), C8 4 (by omega), C8 5 (by omega), C8 6 (by omega), C8 7 (by omega), F6 0 (by omega), F6 1 (by omega), F6 2 (by omega), F6 3 (by omega), F6 4 (by omega), F6 5 (by omega)]
        exact g3
      · rcases g4 with ⟨a1, a2, a3⟩ | ⟨a1, s1, r1, a2, a3, a4, a5, a6, a7, a8, a9, a10, a11⟩
        · refine Or.inl ⟨by rw [c0]; exact a1, by rw [C8 8 (by omega)]; exact a2, seg_cc f _ _ _ _ (fun k x1 x2 => h1 k (by omega) x2) (fun j x1 x2 => h2 j (by omega) x2) a3⟩
        · refine Or.inr ⟨by rw [c0]; exact a1, s1, r1, a2, a3, a4, a5, by rw [C8 8 (by omega)]; exact a6, seg_cc f _ _ _ _ (fun k x1 x2 => h1 k (by omega) (by omega)) (fun j x1 x2 => h2 j (by omega) (by omega)) a7, ?_, ?_, ?_, seg_cc f _ _ _ _ (fun k x1 x2 => h1 k (by omega) x2) (fun j x1 x2 => h2 j (by omega) x2) a11⟩
          · rw [h1 _ (by omega) (by omega)]; exact a8
          · rw [h1 _ (by omega) (by omega)]; exact a9
          · rw [h1 _ (by omega) (by omega)]; exact a10
def rowOk (np no nl s k : Nat) (C g : Nat → Int32) : Prop := ∀ (σ : mSt) (t r : Nat) (c : Nat → Int32), (∀ j, j ≤ 7 → c (324 + 9 * s + j) = C (324 + 9 * s + j)) → σ.1 (t + 13) (r * 7) = nI k → (∀ i, i < 5 → σ.1 (t + 13) (r * 7 + (i + 1)) = g i) → stepRow σ t c np no nl s r
theorem pN1_ok {b q' : Nat} {C g C' : Nat → Int32} {x : Except (Nat × Nat) (Nat × Nat)} (h : pN1 b C x = .ok (g, C', q')) : ∃ a, x = .ok (a, q') ∧ g = g5 (nI a) 0 0 0 0 ∧ C' = upd C (b + 1) (nI a) := by
  cases x with
  | error e => exact absurd h (by simp [pN1])
  | ok v =>
    obtain ⟨a, q1⟩ := v
    simp only [pN1, Except.ok.injEq, Prod.mk.injEq] at h
    obtain ⟨rfl, rfl, rfl⟩ := h
    exact ⟨a, rfl, rfl, rfl⟩
section RO
variable {T : Nat → Int32} {n np no nl s q q' : Nat} {w : Nat → Int64} {C g C' : Nat → Int32}
theorem pRst_19 (l8 : nl ≤ 8) (hC : C (324 + 9 * s) = nI 1) (h : pRst T n w np no nl 19 (324 + 9 * s) C q = .ok (g, C', q')) : (∀ j, j ≤ 324 + 9 * s ∨ 324 + 9 * s + 8 ≤ j → C' j = C j) ∧ rowOk np no nl s 19 C' g := by
  obtain ⟨a, e1, rfl, rfl⟩ := pN1_ok (show pN1 (324 + 9 * s) C (pNum T n 0 39 q) = .ok (g, C', q') from h)
  refine ⟨(fun j hj => by simp (disch := omega) only [upd_n]), fun σ t r c hc h0 hf => ?_⟩
  exact Or.inr (Or.inl ⟨((hc 0 (by omega)).trans (by simp (disch := omega) only [upd_n]; exact hC)), h0, (show σ.1 (t + 13) (r * 7 + 1) = (nI a) from hf 0 (by omega)).trans (show c (324 + 9 * s + 1) = (nI a) from (hc 1 (by omega)).trans (by simp (disch := omega) only [upd_n, upd_e])).symm, a, (pNum_le e1).2, (show c (324 + 9 * s + 1) = (nI a) from (hc 1 (by omega)).trans (by simp (disch := omega) only [upd_n, upd_e]))⟩)
theorem pRst_15 (l8 : nl ≤ 8) (hC : C (324 + 9 * s) = nI 2) (h : pRst T n w np no nl 15 (324 + 9 * s) C q = .ok (g, C', q')) : (∀ j, j ≤ 324 + 9 * s ∨ 324 + 9 * s + 8 ≤ j → C' j = C j) ∧ rowOk np no nl s 15 C' g := by
  obtain ⟨a, e1, rfl, rfl⟩ := pN1_ok (show pN1 (324 + 9 * s) C (pName T n w 12 nl (-1) q) = .ok (g, C', q') from h)
  refine ⟨(fun j hj => by simp (disch := omega) only [upd_n]), fun σ t r c hc h0 hf => ?_⟩
  exact Or.inr (Or.inr (Or.inl ⟨((hc 0 (by omega)).trans (by simp (disch := omega) only [upd_n]; exact hC)), h0, (show σ.1 (t + 13) (r * 7 + 1) = (nI a) from hf 0 (by omega)).trans (show c (324 + 9 * s + 1) = (nI a) from (hc 1 (by omega)).trans (by simp (disch := omega) only [upd_n, upd_e])).symm, a, pName_lt l8 e1, (show c (324 + 9 * s + 1) = (nI a) from (hc 1 (by omega)).trans (by simp (disch := omega) only [upd_n, upd_e]))⟩))
theorem pRst_16 (l8 : nl ≤ 8) (hC : C (324 + 9 * s) = nI 3) (h : pRst T n w np no nl 16 (324 + 9 * s) C q = .ok (g, C', q')) : (∀ j, j ≤ 324 + 9 * s ∨ 324 + 9 * s + 8 ≤ j → C' j = C j) ∧ rowOk np no nl s 16 C' g := by
  obtain ⟨a, e1, rfl, rfl⟩ := pN1_ok (show pN1 (324 + 9 * s) C (pNum T n 1 9 q) = .ok (g, C', q') from h)
  refine ⟨(fun j hj => by simp (disch := omega) only [upd_n]), fun σ t r c hc h0 hf => ?_⟩
  exact Or.inr (Or.inr (Or.inr (Or.inl ⟨((hc 0 (by omega)).trans (by simp (disch := omega) only [upd_n]; exact hC)), h0, (show σ.1 (t + 13) (r * 7 + 1) = (nI a) from hf 0 (by omega)).trans (show c (324 + 9 * s + 1) = (nI a) from (hc 1 (by omega)).trans (by simp (disch := omega) only [upd_n, upd_e])).symm, a, (pNum_le e1).1, (pNum_le e1).2, (show c (324 + 9 * s + 1) = (nI a) from (hc 1 (by omega)).trans (by simp (disch := omega) only [upd_n, upd_e]))⟩)))
theorem pRst_25 (l8 : nl ≤ 8) (hC : C (324 + 9 * s) = nI 7) (h : pRst T n w np no nl 25 (324 + 9 * s) C q = .ok (g, C', q')) : (∀ j, j ≤ 324 + 9 * s ∨ 324 + 9 * s + 8 ≤ j → C' j = C j) ∧ rowOk np no nl s 25 C' g := by
  obtain ⟨a, e1, rfl, rfl⟩ := pN1_ok (show pN1 (324 + 9 * s) C (pNum T n 1 99 q) = .ok (g, C', q') from h)
  refine ⟨(fun j hj => by simp (disch := omega) only [upd_n]), fun σ t r c hc h0 hf => ?_⟩
  exact Or.inr (Or.inr (Or.inr (Or.inr (Or.inr (Or.inr (Or.inr (Or.inl ⟨((hc 0 (by omega)).trans (by simp (disch := omega) only [upd_n]; exact hC)), h0, (show σ.1 (t + 13) (r * 7 + 1) = (nI a) from hf 0 (by omega)).trans (show c (324 + 9 * s + 1) = (nI a) from (hc 1 (by omega)).trans (by simp (disch := omega) only [upd_n, upd_e])).symm, a, (pNum_le e1).1, (pNum_le e1).2, (show c (324 + 9 * s + 1) = (nI a) from (hc 1 (by omega)).trans (by simp (disch := omega) only [upd_n, upd_e]))⟩)))))))
theorem pRst_17 (n8 : np ≤ 8) (o4 : no ≤ 4) (l8 : nl ≤ 8) (hC : C (324 + 9 * s) = nI 4) (h : pRst T n w np no nl 17 (324 + 9 * s) C q = .ok (g, C', q')) : (∀ j, j ≤ 324 + 9 * s ∨ 324 + 9 * s + 8 ≤ j → C' j = C j) ∧ rowOk np no nl s 17 C' g := by
  rw [show pRst T n w np no nl 17 (324 + 9 * s) C q = (match pName T n w 0 np (-1) q with
    | .error e => .error e
    | .ok (p, q1) => match pNum T n 1 99 q1 with
      | .error e => .error e
      | .ok (a, q2) => .ok (g5 (nI p) (nI a) 0 0 0, upd (upd C (324 + 9 * s + 1) (nI p)) (324 + 9 * s + 2) (nI a), q2)) from rfl] at h
  cases e1 : pName T n w 0 np (-1) q with
  | error x => rw [e1] at h; exact absurd h (by simp)
  | ok v1 =>
  obtain ⟨p, q1⟩ := v1
  rw [e1] at h
  dsimp only at h
  cases e2 : pNum T n 1 99 q1 with
  | error x => rw [e2] at h; exact absurd h (by simp)
  | ok v2 =>
  obtain ⟨a, q2⟩ := v2
  rw [e2] at h
  dsimp only at h
  simp only [Except.ok.injEq, Prod.mk.injEq] at h
  obtain ⟨rfl, rfl, rfl⟩ := h
  refine ⟨(fun j hj => by simp (disch := omega) only [upd_n]), fun σ t r c hc h0 hf => ?_⟩
  exact Or.inr (Or.inr (Or.inr (Or.inr (Or.inl ⟨((hc 0 (by omega)).trans (by simp (disch := omega) only [upd_n]; exact hC)), h0, (show σ.1 (t + 13) (r * 7 + 1) = (nI p) from hf 0 (by omega)).trans (show c (324 + 9 * s + 1) = (nI p) from (hc 1 (by omega)).trans (by simp (disch := omega) only [upd_n, upd_e])).symm, (show σ.1 (t + 13) (r * 7 + 2) = (nI a) from hf 1 (by omega)).trans (show c (324 + 9 * s + 2) = (nI a) from (hc 2 (by omega)).trans (by simp (disch := omega) only [upd_n, upd_e])).symm, ⟨p, pName_lt n8 e1, (show c (324 + 9 * s + 1) = (nI p) from (hc 1 (by omega)).trans (by simp (disch := omega) only [upd_n, upd_e]))⟩, a, (pNum_le e2).1, (pNum_le e2).2, (show c (324 + 9 * s + 2) = (nI a) from (hc 2 (by omega)).trans (by simp (disch := omega) only [upd_n, upd_e]))⟩))))
theorem pRst_18 (n8 : np ≤ 8) (o4 : no ≤ 4) (l8 : nl ≤ 8) (hC : C (324 + 9 * s) = nI 5) (h : pRst T n w np no nl 18 (324 + 9 * s) C q = .ok (g, C', q')) : (∀ j, j ≤ 324 + 9 * s ∨ 324 + 9 * s + 8 ≤ j → C' j = C j) ∧ rowOk np no nl s 18 C' g := by
  rw [show pRst T n w np no nl 18 (324 + 9 * s) C q = (match pName T n w 0 np (-1) q with
    | .error e => .error e
    | .ok (p, q1) => match pName T n w 0 np (-1) q1 with
      | .error e => .error e
      | .ok (r, q2) => match pNum T n 1 999 q2 with
        | .error e => .error e
        | .ok (a, q3) => .ok (g5 (nI p) (nI r) (nI a) 0 0, upd (upd (upd C (324 + 9 * s + 1) (nI p)) (324 + 9 * s + 2) (nI r)) (324 + 9 * s + 3) (nI a), q3)) from rfl] at h
  cases e1 : pName T n w 0 np (-1) q with
  | error x => rw [e1] at h; exact absurd h (by simp)
  | ok v1 =>
  obtain ⟨p, q1⟩ := v1
  rw [e1] at h
  dsimp only at h
  cases e2 : pName T n w 0 np (-1) q1 with
  | error x => rw [e2] at h; exact absurd h (by simp)
  | ok v2 =>
  obtain ⟨p2, q2⟩ := v2
  rw [e2] at h
  dsimp only at h
  cases e3 : pNum T n 1 999 q2 with
  | error x => rw [e3] at h; exact absurd h (by simp)
  | ok v3 =>
  obtain ⟨a, q3⟩ := v3
  rw [e3] at h
  dsimp only at h
  simp only [Except.ok.injEq, Prod.mk.injEq] at h
  obtain ⟨rfl, rfl, rfl⟩ := h
  refine ⟨(fun j hj => by simp (disch := omega) only [upd_n]), fun σ t r c hc h0 hf => ?_⟩
  exact Or.inr (Or.inr (Or.inr (Or.inr (Or.inr (Or.inl ⟨((hc 0 (by omega)).trans (by simp (disch := omega) only [upd_n]; exact hC)), h0, (show σ.1 (t + 13) (r * 7 + 1) = (nI p) from hf 0 (by omega)).trans (show c (324 + 9 * s + 1) = (nI p) from (hc 1 (by omega)).trans (by simp (disch := omega) only [upd_n, upd_e])).symm, (show σ.1 (t + 13) (r * 7 + 2) = (nI p2) from hf 1 (by omega)).trans (show c (324 + 9 * s + 2) = (nI p2) from (hc 2 (by omega)).trans (by simp (disch := omega) only [upd_n, upd_e])).symm, (show σ.1 (t + 13) (r * 7 + 3) = (nI a) from hf 2 (by omega)).trans (show c (324 + 9 * s + 3) = (nI a) from (hc 3 (by omega)).trans (by simp (disch := omega) only [upd_n, upd_e])).symm, ⟨p, pName_lt n8 e1, (show c (324 + 9 * s + 1) = (nI p) from (hc 1 (by omega)).trans (by simp (disch := omega) only [upd_n, upd_e]))⟩, ⟨p2, pName_lt n8 e2, (show c (324 + 9 * s + 2) = (nI p2) from (hc 2 (by omega)).trans (by simp (disch := omega) only [upd_n, upd_e]))⟩, a, (pNum_le e3).1, (pNum_le e3).2, (show c (324 + 9 * s + 3) = (nI a) from (hc 3 (by omega)).trans (by simp (disch := omega) only [upd_n, upd_e]))⟩)))))
theorem pRst_10 (n8 : np ≤ 8) (o4 : no ≤ 4) (l8 : nl ≤ 8) (hC : C (324 + 9 * s) = nI 0) (h : pRst T n w np no nl 10 (324 + 9 * s) C q = .ok (g, C', q')) : (∀ j, j ≤ 324 + 9 * s ∨ 324 + 9 * s + 8 ≤ j → C' j = C j) ∧ rowOk np no nl s 10 C' g := by
  rw [show pRst T n w np no nl 10 (324 + 9 * s) C q = (match pPt T n w np nl q with
      | .error e => .error e
      | .ok ((s', l, p, r, f), q1) => .ok (g5 (nI s') (nI l) (nI p) (nI r) (nI f), upd (upd (upd (upd (upd C (324 + 9 * s + 1) (nI s')) (324 + 9 * s + 2) (nI l)) (324 + 9 * s + 3) (nI p)) (324 + 9 * s + 4) (nI r)) (324 + 9 * s + 5) (nI f), q1)) from rfl] at h
  cases e1 : pPt T n w np nl q with
  | error x => rw [e1] at h; exact absurd h (by simp)
  | ok v1 =>
  obtain ⟨⟨s1, l, p, r1, f⟩, q1⟩ := v1
  rw [e1] at h
  dsimp only at h
  obtain ⟨i1, i2, i3, i4, i5, i6, i7⟩ := pPt_ok n8 l8 e1
  simp only [Except.ok.injEq, Prod.mk.injEq] at h
  obtain ⟨rfl, rfl, rfl⟩ := h
  refine ⟨(fun j hj => by simp (disch := omega) only [upd_n]), fun σ t r c hc h0 hf => ?_⟩
  exact Or.inl ⟨((hc 0 (by omega)).trans (by simp (disch := omega) only [upd_n]; exact hC)), h0, (show σ.1 (t + 13) (r * 7 + 1) = (nI s1) from hf 0 (by omega)).trans (show c (324 + 9 * s + 1) = (nI s1) from (hc 1 (by omega)).trans (by simp (disch := omega) only [upd_n, upd_e])).symm, (show σ.1 (t + 13) (r * 7 + 2) = (nI l) from hf 1 (by omega)).trans (show c (324 + 9 * s + 2) = (nI l) from (hc 2 (by omega)).trans (by simp (disch := omega) only [upd_n, upd_e])).symm, (show σ.1 (t + 13) (r * 7 + 3) = (nI p) from hf 2 (by omega)).trans (show c (324 + 9 * s + 3) = (nI p) from (hc 3 (by omega)).trans (by simp (disch := omega) only [upd_n, upd_e])).symm, (show σ.1 (t + 13) (r * 7 + 4) = (nI r1) from hf 3 (by omega)).trans (show c (324 + 9 * s + 4) = (nI r1) from (hc 4 (by omega)).trans (by simp (disch := omega) only [upd_n, upd_e])).symm, (show σ.1 (t + 13) (r * 7 + 5) = (nI f) from hf 4 (by omega)).trans (show c (324 + 9 * s + 5) = (nI f) from (hc 5 (by omega)).trans (by simp (disch := omega) only [upd_n, upd_e])).symm, ⟨s1, i1, i2, (show c (324 + 9 * s + 1) = (nI s1) from (hc 1 (by omega)).trans (by simp (disch := omega) only [upd_n, upd_e]))⟩, ⟨l, i3, (show c (324 + 9 * s + 2) = (nI l) from (hc 2 (by omega)).trans (by simp (disch := omega) only [upd_n, upd_e]))⟩, ⟨p, r1, i4, i5, i6, (show c (324 + 9 * s + 3) = (nI p) from (hc 3 (by omega)).trans (by simp (disch := omega) only [upd_n, upd_e])), (show c (324 + 9 * s + 4) = (nI r1) from (hc 4 (by omega)).trans (by simp (disch := omega) only [upd_n, upd_e]))⟩, f, i7, (show c (324 + 9 * s + 5) = (nI f) from (hc 5 (by omega)).trans (by simp (disch := omega) only [upd_n, upd_e]))⟩
theorem pRst_20 (n8 : np ≤ 8) (o4 : no ≤ 4) (l8 : nl ≤ 8) (hC : C (324 + 9 * s) = nI 6) (h : pRst T n w np no nl 20 (324 + 9 * s) C q = .ok (g, C', q')) : (∀ j, j ≤ 324 + 9 * s ∨ 324 + 9 * s + 8 ≤ j → C' j = C j) ∧ rowOk np no nl s 20 C' g := by
  rw [show pRst T n w np no nl 20 (324 + 9 * s) C q = pTst T n w np no nl (324 + 9 * s) C q from rfl] at h
  unfold pTst at h
  by_cases y21 : isW T n q 21 = true
  · rw [if_pos y21] at h
    cases e1 : pCmp T n (bh T n q) with
    | error x => rw [e1] at h; exact absurd h (by simp)
    | ok v1 =>
    obtain ⟨x, q1⟩ := v1
    rw [e1] at h
    dsimp only at h
    cases e2 : pNum T n 0 99 q1 with
    | error x => rw [e2] at h; exact absurd h (by simp)
    | ok v2 =>
    obtain ⟨v, q2⟩ := v2
    rw [e2] at h
    dsimp only at h
    simp only [Except.ok.injEq, Prod.mk.injEq] at h
    obtain ⟨rfl, rfl, rfl⟩ := h
    refine ⟨(fun j hj => by simp (disch := omega) only [upd_n]), fun σ t r c hc h0 hf => ?_⟩
    exact Or.inr (Or.inr (Or.inr (Or.inr (Or.inr (Or.inr (Or.inl ⟨((hc 0 (by omega)).trans (by simp (disch := omega) only [upd_n]; exact hC)), h0, Or.inl ⟨(show c (324 + 9 * s + 6) = (nI 0) from (hc 6 (by omega)).trans (by simp (disch := omega) only [upd_n, upd_e])), (show σ.1 (t + 13) (r * 7 + 1) = (nI 21) from hf 0 (by omega)), (show σ.1 (t + 13) (r * 7 + 3) = x from hf 2 (by omega)).trans (show c (324 + 9 * s + 7) = x from (hc 7 (by omega)).trans (by simp (disch := omega) only [upd_n, upd_e])).symm, (show σ.1 (t + 13) (r * 7 + 4) = (nI v) from hf 3 (by omega)).trans (show c (324 + 9 * s + 2) = (nI v) from (hc 2 (by omega)).trans (by simp (disch := omega) only [upd_n, upd_e])).symm⟩⟩))))))
  rw [if_neg y21] at h
  by_cases y22 : isW T n q 22 = true
  · rw [if_pos y22] at h
    cases e1 : pName T n w 0 np (-1) (bh T n q) with
    | error x => rw [e1] at h; exact absurd h (by simp)
    | ok v1 =>
    obtain ⟨p, q0⟩ := v1
    rw [e1] at h
    dsimp only at h
    cases e2 : pCmp T n q0 with
    | error x => rw [e2] at h; exact absurd h (by simp)
    | ok v2 =>
    obtain ⟨x, q1⟩ := v2
    rw [e2] at h
    dsimp only at h
    cases e3 : pNum T n 0 999 q1 with
    | error x => rw [e3] at h; exact absurd h (by simp)
    | ok v3 =>
    obtain ⟨v, q2⟩ := v3
    rw [e3] at h
    dsimp only at h
    simp only [Except.ok.injEq, Prod.mk.injEq] at h
    obtain ⟨rfl, rfl, rfl⟩ := h
    refine ⟨(fun j hj => by simp (disch := omega) only [upd_n]), fun σ t r c hc h0 hf => ?_⟩
    exact Or.inr (Or.inr (Or.inr (Or.inr (Or.inr (Or.inr (Or.inl ⟨((hc 0 (by omega)).trans (by simp (disch := omega) only [upd_n]; exact hC)), h0, Or.inr (Or.inl ⟨(show c (324 + 9 * s + 6) = (nI 1) from (hc 6 (by omega)).trans (by simp (disch := omega) only [upd_n, upd_e])), (show σ.1 (t + 13) (r * 7 + 1) = (nI 22) from hf 0 (by omega)), (show σ.1 (t + 13) (r * 7 + 2) = (nI p) from hf 1 (by omega)).trans (show c (324 + 9 * s + 1) = (nI p) from (hc 1 (by omega)).trans (by simp (disch := omega) only [upd_n, upd_e])).symm, (show σ.1 (t + 13) (r * 7 + 3) = x from hf 2 (by omega)).trans (show c (324 + 9 * s + 7) = x from (hc 7 (by omega)).trans (by simp (disch := omega) only [upd_n, upd_e])).symm, (show σ.1 (t + 13) (r * 7 + 4) = (nI v) from hf 3 (by omega)).trans (show c (324 + 9 * s + 2) = (nI v) from (hc 2 (by omega)).trans (by simp (disch := omega) only [upd_n, upd_e])).symm, p, pName_lt n8 e1, (show c (324 + 9 * s + 1) = (nI p) from (hc 1 (by omega)).trans (by simp (disch := omega) only [upd_n, upd_e]))⟩)⟩))))))
  rw [if_neg y22] at h
  by_cases y23 : isW T n q 23 = true
  · rw [if_pos y23] at h
    cases e1 : pName T n w 12 nl (-1) (bh T n q) with
    | error x => rw [e1] at h; exact absurd h (by simp)
    | ok v1 =>
    obtain ⟨p, q0⟩ := v1
    rw [e1] at h
    dsimp only at h
    simp only [Except.ok.injEq, Prod.mk.injEq] at h
    obtain ⟨rfl, rfl, rfl⟩ := h
    refine ⟨(fun j hj => by simp (disch := omega) only [upd_n]), fun σ t r c hc h0 hf => ?_⟩
    exact Or.inr (Or.inr (Or.inr (Or.inr (Or.inr (Or.inr (Or.inl ⟨((hc 0 (by omega)).trans (by simp (disch := omega) only [upd_n]; exact hC)), h0, Or.inr (Or.inr (Or.inl ⟨(show c (324 + 9 * s + 6) = (nI 2) from (hc 6 (by omega)).trans (by simp (disch := omega) only [upd_n, upd_e])), (show σ.1 (t + 13) (r * 7 + 1) = (nI 23) from hf 0 (by omega)), (show σ.1 (t + 13) (r * 7 + 2) = (nI p) from hf 1 (by omega)).trans (show c (324 + 9 * s + 1) = (nI p) from (hc 1 (by omega)).trans (by simp (disch := omega) only [upd_n, upd_e])).symm, p, pName_lt l8 e1, (show c (324 + 9 * s + 1) = (nI p) from (hc 1 (by omega)).trans (by simp (disch := omega) only [upd_n, upd_e]))⟩))⟩))))))
  rw [if_neg y23] at h
  by_cases y24 : isW T n q 24 = true
  · rw [if_pos y24] at h
    cases e1 : pName T n w 8 no (-1) (bh T n q) with
    | error x => rw [e1] at h; exact absurd h (by simp)
    | ok v1 =>
    obtain ⟨p, q0⟩ := v1
    rw [e1] at h
    dsimp only at h
    simp only [Except.ok.injEq, Prod.mk.injEq] at h
    obtain ⟨rfl, rfl, rfl⟩ := h
    refine ⟨(fun j hj => by simp (disch := omega) only [upd_n]), fun σ t r c hc h0 hf => ?_⟩
    exact Or.inr (Or.inr (Or.inr (Or.inr (Or.inr (Or.inr (Or.inl ⟨((hc 0 (by omega)).trans (by simp (disch := omega) only [upd_n]; exact hC)), h0, Or.inr (Or.inr (Or.inr ⟨(show c (324 + 9 * s + 6) = (nI 3) from (hc 6 (by omega)).trans (by simp (disch := omega) only [upd_n, upd_e])), (show σ.1 (t + 13) (r * 7 + 1) = (nI 24) from hf 0 (by omega)), (show σ.1 (t + 13) (r * 7 + 2) = (nI p) from hf 1 (by omega)).trans (show c (324 + 9 * s + 1) = (nI p) from (hc 1 (by omega)).trans (by simp (disch := omega) only [upd_n, upd_e])).symm, p, pName_lt (by omega) e1, (show c (324 + 9 * s + 1) = (nI p) from (hc 1 (by omega)).trans (by simp (disch := omega) only [upd_n, upd_e]))⟩))⟩))))))
  rw [if_neg y24] at h
  exact absurd h (by simp)
theorem pRst_27 (n8 : np ≤ 8) (o4 : no ≤ 4) (l8 : nl ≤ 8) (hC : C (324 + 9 * s) = nI 8) (h : pRst T n w np no nl 27 (324 + 9 * s) C q = .ok (g, C', q')) : (∀ j, j ≤ 324 + 9 * s ∨ 324 + 9 * s + 8 ≤ j → C' j = C j) ∧ rowOk np no nl s 27 C' g := by
  rw [show pRst T n w np no nl 27 (324 + 9 * s) C q = .ok (g5 0 0 0 0 0, C, q) from rfl] at h
  simp only [Except.ok.injEq, Prod.mk.injEq] at h
  obtain ⟨rfl, rfl, rfl⟩ := h
  refine ⟨fun _ _ => rfl, fun σ t r c hc h0 hf => ?_⟩
  exact Or.inr (Or.inr (Or.inr (Or.inr (Or.inr (Or.inr (Or.inr (Or.inr (⟨(hc 0 (by omega)).trans hC, h0⟩))))))))
theorem pRst_ok {k : Nat} (n8 : np ≤ 8) (o4 : no ≤ 4) (l8 : nl ≤ 8) (hk : k ∈ stL) (hC : C (324 + 9 * s) = nI (kR k)) (h : pRst T n w np no nl k (324 + 9 * s) C q = .ok (g, C', q')) : (∀ j, j ≤ 324 + 9 * s ∨ 324 + 9 * s + 8 ≤ j → C' j = C j) ∧ rowOk np no nl s k C' g := by
  simp only [stL, List.mem_cons, List.not_mem_nil, or_false] at hk
  rcases hk with rfl | rfl | rfl | rfl | rfl | rfl | rfl | rfl | rfl
  · exact pRst_10 n8 o4 l8 hC h
  · exact pRst_19 l8 hC h
  · exact pRst_15 l8 hC h
  · exact pRst_16 l8 hC h
  · exact pRst_17 n8 o4 l8 hC h
  · exact pRst_18 n8 o4 l8 hC h
  · exact pRst_20 n8 o4 l8 hC h
  · exact pRst_25 l8 hC h
  · exact pRst_27 n8 o4 l8 hC h
end RO
