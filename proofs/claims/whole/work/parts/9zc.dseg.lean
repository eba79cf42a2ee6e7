/-! days, pure: sequences of steps -/
theorem fRow_lt {F g : Nat → Int32} {r k : Nat} {a : Int32} (h : k < r * 7) : fRow F r a g k = F k := by
  unfold fRow
  simp (disch := omega) only [upd_n]
theorem fRow_0 {F g : Nat → Int32} {r : Nat} {a : Int32} : fRow F r a g (r * 7) = a := by
  unfold fRow
  simp (disch := omega) only [upd_n, upd_e]
theorem fRow_i {F g : Nat → Int32} {r i : Nat} {a : Int32} (h : i < 5) : fRow F r a g (r * 7 + (i + 1)) = g i := by
  unfold fRow
  have : i = 0 ∨ i = 1 ∨ i = 2 ∨ i = 3 ∨ i = 4 := by omega
  rcases this with rfl | rfl | rfl | rfl | rfl <;> simp (disch := omega) only [upd_n, upd_e, Nat.zero_add, Nat.reduceAdd]
section PQ
variable {T : Nat → Int32} {n np no nl : Nat} {w : Nat → Int64}
theorem pHead_ok {wi ns q k q2 : Nat} {C g C1 : Nat → Int32} (n8 : np ≤ 8) (o4 : no ≤ 4) (l8 : nl ≤ 8) (h : pHead T n w np no nl wi C ns q = .ok (k, g, C1, q2)) : k ∈ stL ∧ C1 (324 + 9 * ns) = nI (kR k) ∧ (∀ j, j < 324 + 9 * ns ∨ 324 + 9 * ns + 8 ≤ j → C1 j = C j) ∧ rowOk np no nl ns k C1 g := by
  unfold pHead at h
  by_cases K0 : stK T n q = 0
  · rw [if_pos K0] at h; exact absurd h (by simp)
  rw [if_neg K0] at h
  by_cases n30 : ns = 30
  · rw [if_pos n30] at h; exact absurd h (by simp)
  rw [if_neg n30] at h
  by_cases b3 : isBl (stK T n q) = true ∧ wi = 3
  · rw [if_pos b3] at h; exact absurd h (by simp)
  rw [if_neg b3] at h
  have hk := (stK_w K0).2.1
  generalize stK T n q = k' at *
  cases e1 : pRst T n w np no nl k' (324 + 9 * ns) (upd C (324 + 9 * ns) (nI (kR k'))) (bh T n q) with
  | error x => rw [e1] at h; exact absurd h (by simp)
  | ok v1 =>
  obtain ⟨g1, C2, q1⟩ := v1
  rw [e1] at h
  dsimp only at h
  cases e2 : pSg T n q1 with
  | error x => rw [e2] at h; exact absurd h (by simp)
  | ok q3 =>
  rw [e2] at h
  dsimp only at h
  simp only [Except.ok.injEq, Prod.mk.injEq] at h
  obtain ⟨rfl, rfl, rfl, rfl⟩ := h
  obtain ⟨a1, a2⟩ := pRst_ok n8 o4 l8 hk upd_e e1
  refine ⟨hk, by rw [a1 _ (by omega), upd_e], fun j hj => ?_, a2⟩
  rw [a1 j (by omega), upd_n (by omega)]
theorem pOne_ok {sub : (Nat → Int32) → (Nat → Int32) → Nat → Nat → Nat → exDs} {wi ns r q ns' r' q' : Nat} {C F C' F' : Nat → Int32} (h : pOne T n w np no nl sub wi C F ns r q = .ok (C', F', ns', r', q')) :
    ∃ k g C1 q2, pHead T n w np no nl wi C ns q = .ok (k, g, C1, q2) ∧ ((¬ isBl k = true ∧ C' = upd C1 (324 + 9 * ns + 8) (nI (ns + 1)) ∧ F' = fRow F r (nI k) g ∧ ns' = ns + 1 ∧ r' = r + 1) ∨
      (isBl k = true ∧ ∃ C2 F2 ns2 r2 q3, sub C1 (fRow F r (nI k) g) (ns + 1) (r + 1) q2 = .ok (C2, F2, ns2, r2, q3) ∧ C' = upd C2 (324 + 9 * ns + 8) (nI ns2) ∧ F' = upd (upd (fRow F2 r2 (nI 26) (fun _ => 0)) (r2 * 7 + 6) (nI r)) (r * 7 + 6) (nI r2) ∧ ns' = ns2 ∧ r' = r2 + 1)) := by
  unfold pOne at h
  cases e1 : pHead T n w np no nl wi C ns q with
  | error x => rw [e1] at h; exact absurd h (by simp)
  | ok v1 =>
  obtain ⟨k, g, C1, q2⟩ := v1
  rw [e1] at h
  dsimp only at h
  refine ⟨k, g, C1, q2, rfl, ?_⟩
  by_cases bl : isBl k = true
  · rw [if_pos bl] at h
    cases e2 : sub C1 (fRow F r (nI k) g) (ns + 1) (r + 1) q2 with
    | error x => rw [e2] at h; exact absurd h (by simp [pEnd])
    | ok v2 =>
    obtain ⟨C2, F2, ns2, r2, q3⟩ := v2
    rw [e2] at h
    simp only [pEnd] at h
    cases e3 : pWd T n 26 q3 with
    | error x => rw [e3] at h; exact absurd h (by simp)
    | ok q4 =>
    rw [e3] at h
    dsimp only at h
    cases e4 : pSg T n q4 with
    | error x => rw [e4] at h; exact absurd h (by simp)
    | ok q5 =>
    rw [e4] at h
    dsimp only at h
    simp only [Except.ok.injEq, Prod.mk.injEq] at h
    obtain ⟨rfl, rfl, rfl, rfl, rfl⟩ := h
    exact Or.inr ⟨bl, C2, F2, _, r2, q3, rfl, rfl, rfl, rfl, rfl⟩
  · rw [if_neg bl] at h
    simp only [Except.ok.injEq, Prod.mk.injEq] at h
    obtain ⟨rfl, rfl, rfl, rfl, rfl⟩ := h
    exact Or.inl ⟨bl, rfl, rfl, rfl, rfl⟩
theorem pSq_fr (n8 : np ≤ 8) (o4 : no ≤ 4) (l8 : nl ≤ 8) : ∀ (f wi : Nat) (C F : Nat → Int32) (ns r q : Nat) (C' F' : Nat → Int32) (ns' r' q' : Nat), pSq T n w np no nl f wi C F ns r q = .ok (C', F', ns', r', q') → ns ≤ ns' ∧ r ≤ r' ∧ (∀ j, j < 324 + 9 * ns → C' j = C j) ∧ (∀ k, k < r * 7 → F' k = F k) := by
  intro f
  induction f with
  | zero =>
    intro wi C F ns r q C' F' ns' r' q' h
    simp only [pSq, Except.ok.injEq, Prod.mk.injEq] at h
    obtain ⟨rfl, rfl, rfl, rfl, rfl⟩ := h
    exact ⟨Nat.le_refl _, Nat.le_refl _, fun _ _ => rfl, fun _ _ => rfl⟩
  | succ f ih =>
    intro wi C F ns r q C' F' ns' r' q' h
    unfold pSq at h
    by_cases z : stpD T n wi q = true
    · rw [if_pos z] at h
      simp only [Except.ok.injEq, Prod.mk.injEq] at h
      obtain ⟨rfl, rfl, rfl, rfl, rfl⟩ := h
      exact ⟨Nat.le_refl _, Nat.le_refl _, fun _ _ => rfl, fun _ _ => rfl⟩
    rw [if_neg z] at h
    cases e1 : pOne T n w np no nl (pSq T n w np no nl f (wi + 1)) wi C F ns r q with
    | error x => rw [e1] at h; exact absurd h (by simp)
    | ok v1 =>
    obtain ⟨C3, F3, ns3, r3, q3⟩ := v1
    rw [e1] at h
    dsimp only at h
    obtain ⟨b1, b2, b3, b4⟩ := ih _ _ _ _ _ _ _ _ _ _ _ h
    obtain ⟨k, g, C1, q2, eh, ho⟩ := pOne_ok e1
    obtain ⟨hk, p1, p2, p3⟩ := pHead_ok n8 o4 l8 eh
    rcases ho with ⟨-, rfl, rfl, rfl, rfl⟩ | ⟨-, C2, F2, ns2, r2, q4, es, rfl, rfl, rfl, rfl⟩
    · refine ⟨by omega, by omega, fun j hj => ?_, fun k hk => ?_⟩
      · rw [b3 j (by omega), upd_n (by omega), p2 j (by omega)]
      · rw [b4 k (by omega), fRow_lt hk]
    · obtain ⟨a1, a2, a3, a4⟩ := ih _ _ _ _ _ _ _ _ _ _ _ es
      refine ⟨by omega, by omega, fun j hj => ?_, fun k hk => ?_⟩
      · rw [b3 j (by omega), upd_n (by omega), a3 j (by omega), p2 j (by omega)]
      · rw [b4 k (by omega), upd_n (by omega), upd_n (by omega), fRow_lt (by omega), a4 k (by omega), fRow_lt hk]
def fS (F : Nat → Int32) : mSt := (fun _ k => F k, fun _ _ => 0)
theorem fS_e {F : Nat → Int32} {o k : Nat} : (fS F).1 o k = F k := rfl
theorem isBl_k {k : Nat} (hk : k ∈ stL) : (isBl k = true → nI (kR k) = nI 6 ∨ nI (kR k) = nI 7) ∧ (¬ isBl k = true → nI (kR k) ≠ nI 6 ∧ nI (kR k) ≠ nI 7) := by
  obtain ⟨-, h6, h7⟩ := kR_all k hk
  constructor
  · intro g
    simp only [isBl, Bool.or_eq_true, beq_iff_eq] at g
    rcases g with g | g
    · exact Or.inl (h6.mpr g)
    · exact Or.inr (h7.mpr g)
  · intro g
    simp only [isBl, Bool.or_eq_true, beq_iff_eq] at g
    exact ⟨fun e => g (Or.inl (h6.mp e)), fun e => g (Or.inr (h7.mp e))⟩
theorem pSq_seg {t : Nat} (n8 : np ≤ 8) (o4 : no ≤ 4) (l8 : nl ≤ 8) : ∀ (f wi : Nat) (C F : Nat → Int32) (ns r q : Nat) (C' F' : Nat → Int32) (ns' r' q' : Nat), pSq T n w np no nl f wi C F ns r q = .ok (C', F', ns', r', q') → seg (fS F') t C' np no nl f ns ns' r r' := by
  intro f
  induction f with
  | zero =>
    intro wi C F ns r q C' F' ns' r' q' h
    simp only [pSq, Except.ok.injEq, Prod.mk.injEq] at h
    obtain ⟨rfl, rfl, rfl, rfl, rfl⟩ := h
    exact ⟨rfl, rfl⟩
  | succ f ih =>
    intro wi C F ns r q C' F' ns' r' q' h
    unfold pSq at h
    by_cases z : stpD T n wi q = true
    · rw [if_pos z] at h
      simp only [Except.ok.injEq, Prod.mk.injEq] at h
      obtain ⟨rfl, rfl, rfl, rfl, rfl⟩ := h
      exact Or.inl ⟨rfl, rfl⟩
    rw [if_neg z] at h
    cases e1 : pOne T n w np no nl (pSq T n w np no nl f (wi + 1)) wi C F ns r q with
    | error x => rw [e1] at h; exact absurd h (by simp)
    | ok v1 =>
    obtain ⟨C3, F3, ns3, r3, q3⟩ := v1
    rw [e1] at h
    dsimp only at h
    have I2 := ih _ _ _ _ _ _ _ _ _ _ _ h
    obtain ⟨b1, b2, b3, b4⟩ := pSq_fr n8 o4 l8 _ _ _ _ _ _ _ _ _ _ _ _ h
    obtain ⟨k, g, C1, q2, eh, ho⟩ := pOne_ok e1
    obtain ⟨hk, p1, p2, p3⟩ := pHead_ok n8 o4 l8 eh
    have kb := isBl_k hk
    rcases ho with ⟨bl, rfl, rfl, rfl, rfl⟩ | ⟨bl, C2, F2, ns2, r2, q4, es, rfl, rfl, rfl, rfl⟩
    · have cj : ∀ j, j ≤ 7 → C' (324 + 9 * ns + j) = C1 (324 + 9 * ns + j) := fun j hj => by rw [b3 _ (by omega), upd_n (by omega)]
      have c0 : C' (324 + 9 * ns) = nI (kR k) := (cj 0 (by omega)).trans p1
      refine Or.inr ⟨by omega, by omega, p3 _ _ _ _ cj ?_ (fun i hi => ?_), Or.inl ⟨?_, ?_, I2⟩⟩
      · rw [fS_e, b4 _ (by omega), fRow_0]
      · rw [fS_e, b4 _ (by omega), fRow_i hi]
      · rw [c0]; exact kb.2 bl
      · rw [b3 _ (by omega), upd_e]
    · obtain ⟨a1, a2, a3, a4⟩ := pSq_fr n8 o4 l8 _ _ _ _ _ _ _ _ _ _ _ _ es
      have I1 := ih _ _ _ _ _ _ _ _ _ _ _ es
      have cj : ∀ j, j ≤ 7 → C' (324 + 9 * ns + j) = C1 (324 + 9 * ns + j) := fun j hj => by rw [b3 _ (by omega), upd_n (by omega), a3 _ (by omega)]
      have c0 : C' (324 + 9 * ns) = nI (kR k) := (cj 0 (by omega)).trans p1
      have fk : ∀ k, k < r2 * 7 → k ≠ r * 7 + 6 → F' k = F2 k := fun k x1 x2 => by
        rw [b4 k (by omega), upd_n x2, upd_n (by omega), fRow_lt x1]
      refine Or.inr ⟨by omega, by omega, p3 _ _ _ _ cj ?_ (fun i hi => ?_), Or.inr ⟨?_, ns3, r2, by omega, b1, by omega, by omega, ?_, ?_, ?_, ?_, ?_, I2⟩⟩
      · rw [fS_e, fk _ (by omega) (by omega), a4 _ (by omega), fRow_0]
      · rw [fS_e, fk _ (by omega) (by omega), a4 _ (by omega), fRow_i hi]
      · rw [c0]; exact kb.1 bl
      · rw [b3 _ (by omega), upd_e]
      · refine seg_cc f _ _ _ _ (fun k x1 x2 => ?_) (fun j x1 x2 => ?_) I1
        · rw [fS_e, fS_e, fk k x2 (by omega)]
        · rw [b3 j (by omega), upd_n (by omega)]
      · rw [fS_e, b4 _ (by omega), upd_n (by omega), upd_n (by omega), fRow_0]
      · rw [fS_e, b4 _ (by omega), upd_n (by omega), upd_e]
      · rw [fS_e, b4 _ (by omega), upd_e]
end PQ
