/-! the days of a text: what both read -/
def g5 (a b c d e : Int32) (i : Nat) : Int32 := if i = 0 then a else if i = 1 then b else if i = 2 then c else if i = 3 then d else if i = 4 then e else 0
def pCmp (T : Nat → Int32) (n q : Nat) : Except (Nat × Nat) (Int32 × Nat) := if kd T n q = 3 then (if T (pl T n q) = nI 59 then .error (er T n q) else .ok (T (pl T n q), bh T n q)) else .error (er T n q)
def stL : List Nat := [10, 19, 15, 16, 17, 18, 20, 25, 27]
def kR (k : Nat) : Nat := if k = 10 then 0 else if k = 19 then 1 else if k = 15 then 2 else if k = 16 then 3 else if k = 17 then 4 else if k = 18 then 5 else if k = 20 then 6 else if k = 25 then 7 else 8
def stK (T : Nat → Int32) (n q : Nat) : Nat := if isW T n q 10 = true then 10 else if isW T n q 19 = true then 19 else if isW T n q 15 = true then 15 else if isW T n q 16 = true then 16 else if isW T n q 17 = true then 17 else if isW T n q 18 = true then 18 else if isW T n q 20 = true then 20 else if isW T n q 25 = true then 25 else if isW T n q 27 = true then 27 else 0
abbrev exDr := Except (Nat × Nat) ((Nat → Int32) × (Nat → Int32) × Nat)
def pTst (T : Nat → Int32) (n : Nat) (w : Nat → Int64) (np no nl b : Nat) (C : Nat → Int32) (q : Nat) : exDr :=
  if isW T n q 21 = true then
    match pCmp T n (bh T n q) with
    | .error e => .error e
    | .ok (x, q1) => match pNum T n 0 99 q1 with
      | .error e => .error e
      | .ok (v, q2) => .ok (g5 (nI 21) 0 x (nI v) 0, upd (upd (upd C (b + 6) (nI 0)) (b + 7) x) (b + 2) (nI v), q2)
  else if isW T n q 22 = true then
    match pName T n w 0 np (-1) (bh T n q) with
    | .error e => .error e
    | .ok (p, q0) => match pCmp T n q0 with
      | .error e => .error e
      | .ok (x, q1) => match pNum T n 0 999 q1 with
        | .error e => .error e
        | .ok (v, q2) => .ok (g5 (nI 22) (nI p) x (nI v) 0, upd (upd (upd (upd C (b + 6) (nI 1)) (b + 1) (nI p)) (b + 7) x) (b + 2) (nI v), q2)
  else if isW T n q 23 = true then
    match pName T n w 12 nl (-1) (bh T n q) with
    | .error e => .error e
    | .ok (p, q0) => .ok (g5 (nI 23) (nI p) 0 0 0, upd (upd C (b + 6) (nI 2)) (b + 1) (nI p), q0)
  else if isW T n q 24 = true then
    match pName T n w 8 no (-1) (bh T n q) with
    | .error e => .error e
    | .ok (p, q0) => .ok (g5 (nI 24) (nI p) 0 0 0, upd (upd C (b + 6) (nI 3)) (b + 1) (nI p), q0)
  else .error (er T n q)
def pN1 (b : Nat) (C : Nat → Int32) (x : Except (Nat × Nat) (Nat × Nat)) : exDr := match x with
  | .error e => .error e
  | .ok (a, q1) => .ok (g5 (nI a) 0 0 0 0, upd C (b + 1) (nI a), q1)
def pRst (T : Nat → Int32) (n : Nat) (w : Nat → Int64) (np no nl k b : Nat) (C : Nat → Int32) (q : Nat) : exDr :=
  if k = 10 then
    match pPt T n w np nl q with
    | .error e => .error e
    | .ok ((s, l, p, r, f), q1) => .ok (g5 (nI s) (nI l) (nI p) (nI r) (nI f), upd (upd (upd (upd (upd C (b + 1) (nI s)) (b + 2) (nI l)) (b + 3) (nI p)) (b + 4) (nI r)) (b + 5) (nI f), q1)
  else if k = 19 then pN1 b C (pNum T n 0 39 q)
  else if k = 15 then pN1 b C (pName T n w 12 nl (-1) q)
  else if k = 16 then pN1 b C (pNum T n 1 9 q)
  else if k = 17 then
    match pName T n w 0 np (-1) q with
    | .error e => .error e
    | .ok (p, q1) => match pNum T n 1 99 q1 with
      | .error e => .error e
      | .ok (a, q2) => .ok (g5 (nI p) (nI a) 0 0 0, upd (upd C (b + 1) (nI p)) (b + 2) (nI a), q2)
  else if k = 18 then
    match pName T n w 0 np (-1) q with
    | .error e => .error e
    | .ok (p, q1) => match pName T n w 0 np (-1) q1 with
      | .error e => .error e
      | .ok (r, q2) => match pNum T n 1 999 q2 with
        | .error e => .error e
        | .ok (a, q3) => .ok (g5 (nI p) (nI r) (nI a) 0 0, upd (upd (upd C (b + 1) (nI p)) (b + 2) (nI r)) (b + 3) (nI a), q3)
  else if k = 20 then pTst T n w np no nl b C q
  else if k = 25 then pN1 b C (pNum T n 1 99 q)
  else .ok (g5 0 0 0 0 0, C, q)
def isBl (k : Nat) : Bool := k == 20 || k == 25
def pHead (T : Nat → Int32) (n : Nat) (w : Nat → Int64) (np no nl wi : Nat) (C : Nat → Int32) (ns q : Nat) : Except (Nat × Nat) (Nat × (Nat → Int32) × (Nat → Int32) × Nat) :=
  if stK T n q = 0 then .error (er T n q) else
  if ns = 30 then .error (6, pl T n q) else
  if isBl (stK T n q) = true ∧ wi = 3 then .error (7, pl T n q) else
  match pRst T n w np no nl (stK T n q) (324 + 9 * ns) (upd C (324 + 9 * ns) (nI (kR (stK T n q)))) (bh T n q) with
  | .error e => .error e
  | .ok (g, C', q1) => match pSg T n q1 with
    | .error e => .error e
    | .ok q2 => .ok (stK T n q, g, C', q2)
def fRow (F : Nat → Int32) (r : Nat) (k : Int32) (g : Nat → Int32) : Nat → Int32 := upd (upd (upd (upd (upd (upd (upd F (r * 7) k) (r * 7 + 1) (g 0)) (r * 7 + 2) (g 1)) (r * 7 + 3) (g 2)) (r * 7 + 4) (g 3)) (r * 7 + 5) (g 4)) (r * 7 + 6) (-1)
abbrev exDs := Except (Nat × Nat) ((Nat → Int32) × (Nat → Int32) × Nat × Nat × Nat)
def pEnd (T : Nat → Int32) (n ns r : Nat) (x : exDs) : exDs := match x with
  | .error e => .error e
  | .ok (C2, F2, ns2, r2, q3) => match pWd T n 26 q3 with
    | .error e => .error e
    | .ok q4 => match pSg T n q4 with
      | .error e => .error e
      | .ok q5 => .ok (upd C2 (324 + 9 * ns + 8) (nI ns2), upd (upd (fRow F2 r2 (nI 26) (fun _ => 0)) (r2 * 7 + 6) (nI r)) (r * 7 + 6) (nI r2), ns2, r2 + 1, q5)
def pOne (T : Nat → Int32) (n : Nat) (w : Nat → Int64) (np no nl : Nat) (sub : (Nat → Int32) → (Nat → Int32) → Nat → Nat → Nat → exDs) (wi : Nat) (C F : Nat → Int32) (ns r q : Nat) : exDs :=
  match pHead T n w np no nl wi C ns q with
  | .error e => .error e
  | .ok (k, g, C1, q2) => if isBl k = true then pEnd T n ns r (sub C1 (fRow F r (nI k) g) (ns + 1) (r + 1) q2)
    else .ok (upd C1 (324 + 9 * ns + 8) (nI (ns + 1)), fRow F r (nI k) g, ns + 1, r + 1, q2)
def stpD (T : Nat → Int32) (n wi q : Nat) : Bool := if wi = 0 then decide (kd T n q = 0) else isW T n q 26
def pSq (T : Nat → Int32) (n : Nat) (w : Nat → Int64) (np no nl : Nat) : Nat → Nat → (Nat → Int32) → (Nat → Int32) → Nat → Nat → Nat → exDs
  | 0, _, C, F, ns, r, q => .ok (C, F, ns, r, q)
  | f + 1, wi, C, F, ns, r, q => if stpD T n wi q = true then .ok (C, F, ns, r, q) else
    match pOne T n w np no nl (pSq T n w np no nl f (wi + 1)) wi C F ns r q with
    | .error e => .error e
    | .ok (C', F', ns', r', q') => pSq T n w np no nl f wi C' F' ns' r' q'
theorem stK_w {T : Nat → Int32} {n q : Nat} (h : stK T n q ≠ 0) : isW T n q (stK T n q) = true ∧ stK T n q ∈ stL ∧ sWd T n q = nI (kR (stK T n q)) := by
  unfold stK at h ⊢
  unfold sWd
  by_cases y10 : isW T n q 10 = true
  · rw [if_pos y10, if_pos y10]; exact ⟨y10, by decide, rfl⟩
  rw [if_neg y10, if_neg y10] at *
  by_cases y19 : isW T n q 19 = true
  · rw [if_pos y19, if_pos y19]; exact ⟨y19, by decide, rfl⟩
  rw [if_neg y19, if_neg y19] at *
  by_cases y15 : isW T n q 15 = true
  · rw [if_pos y15, if_pos y15]; exact ⟨y15, by decide, rfl⟩
  rw [if_neg y15, if_neg y15] at *
  by_cases y16 : isW T n q 16 = true
  · rw [if_pos y16, if_pos y16]; exact ⟨y16, by decide, rfl⟩
  rw [if_neg y16, if_neg y16] at *
  by_cases y17 : isW T n q 17 = true
  · rw [if_pos y17, if_pos y17]; exact ⟨y17, by decide, rfl⟩
  rw [if_neg y17, if_neg y17] at *
  by_cases y18 : isW T n q 18 = true
  · rw [if_pos y18, if_pos y18]; exact ⟨y18, by decide, rfl⟩
  rw [if_neg y18, if_neg y18] at *
  by_cases y20 : isW T n q 20 = true
  · rw [if_pos y20, if_pos y20]; exact ⟨y20, by decide, rfl⟩
  rw [if_neg y20, if_neg y20] at *
  by_cases y25 : isW T n q 25 = true
  · rw [if_pos y25, if_pos y25]; exact ⟨y25, by decide, rfl⟩
  rw [if_neg y25, if_neg y25] at *
  by_cases y27 : isW T n q 27 = true
  · rw [if_pos y27, if_pos y27]; exact ⟨y27, by decide, rfl⟩
  rw [if_neg y27] at h
  exact absurd rfl h
theorem stK_0 {T : Nat → Int32} {n q : Nat} (h : stK T n q = 0) : sWd T n q = -1 ∧ ∀ k ∈ stL, ¬ isW T n q k = true := by
  unfold stK at h
  unfold sWd
  by_cases y10 : isW T n q 10 = true
  · rw [if_pos y10] at h; exact absurd h (by decide)
  by_cases y19 : isW T n q 19 = true
  · rw [if_neg y10, if_pos y19] at h; exact absurd h (by decide)
  by_cases y15 : isW T n q 15 = true
  · rw [if_neg y10, if_neg y19, if_pos y15] at h; exact absurd h (by decide)
  by_cases y16 : isW T n q 16 = true
  · rw [if_neg y10, if_neg y19, if_neg y15, if_pos y16] at h; exact absurd h (by decide)
  by_cases y17 : isW T n q 17 = true
  · rw [if_neg y10, if_neg y19, if_neg y15, if_neg y16, if_pos y17] at h; exact absurd h (by decide)
  by_cases y18 : isW T n q 18 = true
  · rw [if_neg y10, if_neg y19, if_neg y15, if_neg y16, if_neg y17, if_pos y18] at h; exact absurd h (by decide)
  by_cases y20 : isW T n q 20 = true
  · rw [if_neg y10, if_neg y19, if_neg y15, if_neg y16, if_neg y17, if_neg y18, if_pos y20] at h; exact absurd h (by decide)
  by_cases y25 : isW T n q 25 = true
  · rw [if_neg y10, if_neg y19, if_neg y15, if_neg y16, if_neg y17, if_neg y18, if_neg y20, if_pos y25] at h; exact absurd h (by decide)
  by_cases y27 : isW T n q 27 = true
  · rw [if_neg y10, if_neg y19, if_neg y15, if_neg y16, if_neg y17, if_neg y18, if_neg y20, if_neg y25, if_pos y27] at h; exact absurd h (by decide)
  rw [if_neg y10, if_neg y19, if_neg y15, if_neg y16, if_neg y17, if_neg y18, if_neg y20, if_neg y25, if_neg y27]
  refine ⟨rfl, fun k hk => ?_⟩
  simp only [stL, List.mem_cons, List.not_mem_nil, or_false] at hk
  rcases hk with rfl | rfl | rfl | rfl | rfl | rfl | rfl | rfl | rfl <;> assumption
theorem stL_28 {k : Nat} (h : k ∈ stL) : k < 28 ∧ 10 ≤ k := by
  simp only [stL, List.mem_cons, List.not_mem_nil, or_false] at h; omega
