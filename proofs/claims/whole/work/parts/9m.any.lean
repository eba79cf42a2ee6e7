theorem pOvn_mo {T : Nat → Int32} {n no q q' : Nat} {w : Nat → Int64} {v : Int32} (h : pOvn T n w no q = .ok (v, q')) : q ≤ q' := by
  unfold pOvn at h
  by_cases z : isW T n q 6 = true
  · rw [if_pos z] at h
    cases e1 : pName T n w 8 no (-1) (bh T n q) with
    | error e => rw [e1] at h; exact absurd h (by simp)
    | ok v1 =>
      obtain ⟨a, q1⟩ := v1
      rw [e1] at h
      dsimp only at h
      have e : q1 = q' := congrArg Prod.snd (Except.ok.inj h)
      have m1 := pName_mo e1
      have m0 := q_bh (T := T) (n := n) (q := q)
      omega
  · rw [if_neg z] at h
    have e : q = q' := congrArg Prod.snd (Except.ok.inj h)
    omega
theorem pPerson_lt {T : Nat → Int32} {n q : Nat} {c : Nat → Int32} {w : Nat → Int64} {r : (Nat → Int32) × (Nat → Int64) × Nat} (h : pPerson T n c w q = .ok r) : q < r.2.2 := by
  unfold pPerson at h
  have m0 := q_bh (T := T) (n := n) (q := q)
  by_cases z : cN c 0 = 8
  · rw [if_pos z] at h; exact absurd h (by simp)
  rw [if_neg z] at h
  cases e1 : pNew T n w (cN c 0) (cN c 1) (cN c 2) (bh T n q) with
  | error e => rw [e1] at h; exact absurd h (by simp)
  | ok v1 =>
  obtain ⟨a1, q1⟩ := v1
  rw [e1] at h
  dsimp only at h
  have m1 := pNew_mo e1
  cases e2 : pOpt T n 1 999 q1 with
  | error e => rw [e2] at h; exact absurd h (by simp)
  | ok v2 =>
  obtain ⟨a2, q2⟩ := v2
  rw [e2] at h
  dsimp only at h
  have m2 := pOpt_mo e2
  by_cases y : isS T n q2 59 = true
  · rw [if_pos y] at h
    have m3 := pSg_lt (show pSg T n q2 = .ok (bh T n q2) from if_pos y)
    rw [← Except.ok.inj h]
    show q < bh T n q2
    omega
  · rw [if_neg y] at h; exact absurd h (by simp)
theorem pOven_lt {T : Nat → Int32} {n q : Nat} {c : Nat → Int32} {w : Nat → Int64} {r : (Nat → Int32) × (Nat → Int64) × Nat} (h : pOven T n c w q = .ok r) : q < r.2.2 := by
  unfold pOven at h
  have m0 := q_bh (T := T) (n := n) (q := q)
  by_cases z : cN c 1 = 4
  · rw [if_pos z] at h; exact absurd h (by simp)
  rw [if_neg z] at h
  cases e1 : pNew T n w (cN c 0) (cN c 1) (cN c 2) (bh T n q) with
  | error e => rw [e1] at h; exact absurd h (by simp)
  | ok v1 =>
  obtain ⟨a1, q1⟩ := v1
  rw [e1] at h
  dsimp only at h
  have m1 := pNew_mo e1
  cases e2 : pOpt T n 3 16 q1 with
  | error e => rw [e2] at h; exact absurd h (by simp)
  | ok v2 =>
  obtain ⟨a2, q2⟩ := v2
  rw [e2] at h
  dsimp only at h
  have m2 := pOpt_mo e2
  by_cases y : isS T n q2 59 = true
  · rw [if_pos y] at h
    have m3 := pSg_lt (show pSg T n q2 = .ok (bh T n q2) from if_pos y)
    rw [← Except.ok.inj h]
    show q < bh T n q2
    omega
  · rw [if_neg y] at h; exact absurd h (by simp)
theorem pLoaf_lt {T : Nat → Int32} {n q : Nat} {c : Nat → Int32} {w : Nat → Int64} {r : (Nat → Int32) × (Nat → Int64) × Nat} (h : pLoaf T n c w q = .ok r) : q < r.2.2 := by
  unfold pLoaf at h
  have m0 := q_bh (T := T) (n := n) (q := q)
  by_cases z : cN c 2 = 8
  · rw [if_pos z] at h; exact absurd h (by simp)
  rw [if_neg z] at h
  cases e1 : pNew T n w (cN c 0) (cN c 1) (cN c 2) (bh T n q) with
  | error e => rw [e1] at h; exact absurd h (by simp)
  | ok v1 =>
  obtain ⟨a1, q1⟩ := v1
  rw [e1] at h
  dsimp only at h
  have m1 := pNew_mo e1
  cases e2 : pWd T n 5 q1 with
  | error e => rw [e2] at h; exact absurd h (by simp)
  | ok v2 =>
  rw [e2] at h
  dsimp only at h
  have m2 := pWd_mo e2
  cases e3 : pName T n w 0 (cN c 0) (-1) v2 with
  | error e => rw [e3] at h; exact absurd h (by simp)
  | ok v3 =>
  obtain ⟨a3, q3⟩ := v3
  rw [e3] at h
  dsimp only at h
  have m3 := pName_mo e3
  cases e4 : pOvn T n w (cN c 1) q3 with
  | error e => rw [e4] at h; exact absurd h (by simp)
  | ok v4 =>
  obtain ⟨a4, q4⟩ := v4
  rw [e4] at h
  dsimp only at h
  have m4 := pOvn_mo e4
  cases e5 : pWd T n 7 q4 with
  | error e => rw [e5] at h; exact absurd h (by simp)
  | ok v5 =>
  rw [e5] at h
  dsimp only at h
  have m5 := pWd_mo e5
  cases e6 : pNum T n 0 99 v5 with
  | error e => rw [e6] at h; exact absurd h (by simp)
  | ok v6 =>
  obtain ⟨a6, q6⟩ := v6
  rw [e6] at h
  dsimp only at h
  have m6 := pNum_mo e6
  cases e7 : pWd T n 8 q6 with
  | error e => rw [e7] at h; exact absurd h (by simp)
  | ok v7 =>
  rw [e7] at h
  dsimp only at h
  have m7 := pWd_mo e7
  cases e8 : pNum T n 1 99 v7 with
  | error e => rw [e8] at h; exact absurd h (by simp)
  | ok v8 =>
  obtain ⟨a8, q8⟩ := v8
  rw [e8] at h
  dsimp only at h
  have m8 := pNum_mo e8
  cases e9 : pWd T n 9 q8 with
  | error e => rw [e9] at h; exact absurd h (by simp)
  | ok v9 =>
  rw [e9] at h
  dsimp only at h
  have m9 := pWd_mo e9
  cases e10 : pNum T n 0 999 v9 with
  | error e => rw [e10] at h; exact absurd h (by simp)
  | ok v10 =>
  obtain ⟨a10, q10⟩ := v10
  rw [e10] at h
  dsimp only at h
  have m10 := pNum_mo e10
  cases e11 : pSg T n q10 with
  | error e => rw [e11] at h; exact absurd h (by simp)
  | ok v11 =>
  rw [e11] at h
  dsimp only at h
  have m11 := pSg_lt e11
  rw [← Except.ok.inj h]
  show q < v11
  omega
theorem pPart_mo {T : Nat → Int32} {n np nl q q' : Nat} {w : Nat → Int64} {r : Nat × Nat × Nat × Nat × Nat} (h : pPart T n w np nl q = .ok (r, q')) : q ≤ q' := by
  unfold pPart at h
  cases e1 : pWd T n 10 q with
  | error e => rw [e1] at h; exact absurd h (by simp)
  | ok v1 =>
  rw [e1] at h
  dsimp only at h
  have m1 := pWd_mo e1
  cases e2 : pNum T n 1 99 v1 with
  | error e => rw [e2] at h; exact absurd h (by simp)
  | ok v2 =>
  obtain ⟨a2, q2⟩ := v2
  rw [e2] at h
  dsimp only at h
  have m2 := pNum_mo e2
  cases e3 : pWd T n 11 q2 with
  | error e => rw [e3] at h; exact absurd h (by simp)
  | ok v3 =>
  rw [e3] at h
  dsimp only at h
  have m3 := pWd_mo e3
  cases e4 : pName T n w 12 nl (-1) v3 with
  | error e => rw [e4] at h; exact absurd h (by simp)
  | ok v4 =>
  obtain ⟨a4, q4⟩ := v4
  rw [e4] at h
  dsimp only at h
  have m4 := pName_mo e4
  cases e5 : pWd T n 12 q4 with
  | error e => rw [e5] at h; exact absurd h (by simp)
  | ok v5 =>
  rw [e5] at h
  dsimp only at h
  have m5 := pWd_mo e5
  cases e6 : pName T n w 0 np (-1) v5 with
  | error e => rw [e6] at h; exact absurd h (by simp)
  | ok v6 =>
  obtain ⟨a6, q6⟩ := v6
  rw [e6] at h
  dsimp only at h
  have m6 := pName_mo e6
  cases e7 : pWd T n 13 q6 with
  | error e => rw [e7] at h; exact absurd h (by simp)
  | ok v7 =>
  rw [e7] at h
  dsimp only at h
  have m7 := pWd_mo e7
  cases e8 : pName T n w 0 np (nI a6) v7 with
  | error e => rw [e8] at h; exact absurd h (by simp)
  | ok v8 =>
  obtain ⟨a8, q8⟩ := v8
  rw [e8] at h
  dsimp only at h
  have m8 := pName_mo e8
  cases e9 : pOpt T n 14 999 q8 with
  | error e => rw [e9] at h; exact absurd h (by simp)
  | ok v9 =>
  obtain ⟨a9, q9⟩ := v9
  rw [e9] at h
  dsimp only at h
  have m9 := pOpt_mo e9
  have e : q9 = q' := congrArg Prod.snd (Except.ok.inj h)
  omega
theorem pTP_lt {T : Nat → Int32} {n q : Nat} {c : Nat → Int32} {w : Nat → Int64} {r : (Nat → Int32) × (Nat → Int64) × Nat} (h : pTP T n c w q = .ok r) : q < r.2.2 := by
  unfold pTP at h
  by_cases z : cN c 3 < 16
  rotate_left
  · rw [if_neg z] at h; exact absurd h (by simp)
  rw [if_pos z] at h
  cases e1 : pPart T n w (cN c 0) (cN c 2) q with
  | error e => rw [e1] at h; exact absurd h (by simp)
  | ok v1 =>
  obtain ⟨⟨a1, a2, a3, a4, a5⟩, q1⟩ := v1
  rw [e1] at h
  dsimp only at h
  have m1 := pPart_mo e1
  cases e2 : pSg T n q1 with
  | error e => rw [e2] at h; exact absurd h (by simp)
  | ok v2 =>
  rw [e2] at h
  dsimp only at h
  have m2 := pSg_lt e2
  rw [← Except.ok.inj h]
  show q < v2
  omega
/-- one part of a town's text -/
def pAny (T : Nat → Int32) (n : Nat) (c : Nat → Int32) (w : Nat → Int64) (q : Nat) : Except (Nat × Nat) ((Nat → Int32) × (Nat → Int64) × Nat) := if isW T n q 0 then pPerson T n c w q else if isW T n q 2 then pOven T n c w q else if isW T n q 4 then pLoaf T n c w q else if isW T n q 10 then pTP T n c w q else .error (er T n q)
theorem pAny_lt {T : Nat → Int32} {n q : Nat} {c : Nat → Int32} {w : Nat → Int64} {r : (Nat → Int32) × (Nat → Int64) × Nat} (h : pAny T n c w q = .ok r) : q < r.2.2 := by
  unfold pAny at h
  split at h
  · exact pPerson_lt h
  · split at h
    · exact pOven_lt h
    · split at h
      · exact pLoaf_lt h
      · split at h
        · exact pTP_lt h
        · exact absurd h (by simp)
def pTown (T : Nat → Int32) (n : Nat) : Nat → (Nat → Int32) → (Nat → Int64) → Nat → Except (Nat × Nat) ((Nat → Int32) × (Nat → Int64))
  | 0, c, w, _ => .ok (c, w)
  | f + 1, c, w, q => if kd T n q = 0 then .ok (c, w) else match pAny T n c w q with
    | .error e => .error e
    | .ok (c', w', q') => pTown T n f c' w' q'
