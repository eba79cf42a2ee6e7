/-! the state that class and reference share between two calls -/
def bitOf (x : Int32) (l : Nat) : Prop := (x >>> (nI l &&& 31)) &&& 1 = 1
/-- what a loaf is: by the class's rows and by the reference's row c -/
def LRel (σ : mSt) (t : Nat) (c : Nat → Int32) (np no l : Nat) : Prop :=
  (σ.1 (t + 19) l = c (34 + l) ∧ ∃ p, p < np ∧ c (34 + l) = nI p) ∧
  (σ.1 (t + 20) l = c (42 + l) ∧ (c (42 + l) = -1 ∨ ∃ k, k < no ∧ c (42 + l) = nI k)) ∧
  (σ.1 (t + 21) l = c (50 + l) ∧ ∃ y, y ≤ 99 ∧ c (50 + l) = nI y) ∧
  (σ.1 (t + 22) l = c (58 + l) ∧ ∃ n, 1 ≤ n ∧ n ≤ 99 ∧ c (58 + l) = nI n) ∧
  (σ.1 (t + 23) l = c (66 + l) ∧ ∃ f, f ≤ 999 ∧ c (66 + l) = nI f) ∧
  ((c (74 + l) = -1 ∧ ¬ bitOf (σ.1 t 17) l) ∨ ∃ n, n ≤ 99 ∧ c (74 + l) = nI n ∧ σ.1 (t + 24) l = nI n ∧ bitOf (σ.1 t 17) l)
/-- what a promise is -/
def PRel (σ : mSt) (t : Nat) (c : Nat → Int32) (np nl k : Nat) : Prop :=
  (σ.1 (t + 4) k = c (82 + 6 * k) ∧ ∃ n, 1 ≤ n ∧ n ≤ 99 ∧ c (82 + 6 * k) = nI n) ∧
  (σ.1 (t + 5) k = c (82 + 6 * k + 1) ∧ ∃ l, l < nl ∧ c (82 + 6 * k + 1) = nI l) ∧
  (σ.1 (t + 6) k = c (82 + 6 * k + 2) ∧ ∃ p, p < np ∧ c (82 + 6 * k + 2) = nI p) ∧
  (σ.1 (t + 7) k = c (82 + 6 * k + 3) ∧ ∃ p, p < np ∧ c (82 + 6 * k + 3) = nI p) ∧
  (σ.1 (t + 8) k = c (82 + 6 * k + 4) ∧ ∃ f, f ≤ 999 ∧ c (82 + 6 * k + 4) = nI f) ∧
  (σ.1 (t + 9) k = c (82 + 6 * k + 5) ∧ (c (82 + 6 * k + 5) = 0 ∨ c (82 + 6 * k + 5) = 1)) ∧ ¬ c (82 + 6 * k + 2) = c (82 + 6 * k + 3)
/-- names: those of things that are there are the reference's words and no 0; the other places hold 0 -/
def NRel (σ : mSt) (t : Nat) (w : Nat → Int64) (lo n top : Nat) : Prop :=
  (∀ k, k < n → σ.2 (t + 2) (lo + k) = w (lo + k) ∧ ¬ w (lo + k) = 0) ∧ ∀ k, n ≤ k → k < top → σ.2 (t + 2) (lo + k) = 0
/-- a step of the days: the reference's at s, the class's row r -/
def stepRow (σ : mSt) (t : Nat) (c : Nat → Int32) (np no nl s r : Nat) : Prop :=
  let C := fun j => c (324 + 9 * s + j)
  let F := fun j => σ.1 (t + 13) (r * 7 + j)
  (C 0 = 0 ∧ F 0 = nI 10 ∧ F 1 = C 1 ∧ F 2 = C 2 ∧ F 3 = C 3 ∧ F 4 = C 4 ∧ F 5 = C 5 ∧ (∃ n, 1 ≤ n ∧ n ≤ 99 ∧ C 1 = nI n) ∧ (∃ l, l < nl ∧ C 2 = nI l) ∧ (∃ p q, p < np ∧ q < np ∧ p ≠ q ∧ C 3 = nI p ∧ C 4 = nI q) ∧ ∃ f, f ≤ 999 ∧ C 5 = nI f) ∨
  (C 0 = 1 ∧ F 0 = nI 19 ∧ F 1 = C 1 ∧ ∃ n, n ≤ 39 ∧ C 1 = nI n) ∨
  (C 0 = nI 2 ∧ F 0 = nI 15 ∧ F 1 = C 1 ∧ ∃ l, l < nl ∧ C 1 = nI l) ∨
  (C 0 = nI 3 ∧ F 0 = nI 16 ∧ F 1 = C 1 ∧ ∃ n, 1 ≤ n ∧ n ≤ 9 ∧ C 1 = nI n) ∨
  (C 0 = nI 4 ∧ F 0 = nI 17 ∧ F 1 = C 1 ∧ F 2 = C 2 ∧ (∃ p, p < np ∧ C 1 = nI p) ∧ ∃ n, 1 ≤ n ∧ n ≤ 99 ∧ C 2 = nI n) ∨
  (C 0 = nI 5 ∧ F 0 = nI 18 ∧ F 1 = C 1 ∧ F 2 = C 2 ∧ F 3 = C 3 ∧ (∃ p, p < np ∧ C 1 = nI p) ∧ (∃ p, p < np ∧ C 2 = nI p) ∧ ∃ n, 1 ≤ n ∧ n ≤ 999 ∧ C 3 = nI n) ∨
  (C 0 = nI 6 ∧ F 0 = nI 20 ∧
    ((C 6 = 0 ∧ F 1 = nI 21 ∧ F 3 = C 7 ∧ F 4 = C 2) ∨
     (C 6 = 1 ∧ F 1 = nI 22 ∧ F 2 = C 1 ∧ F 3 = C 7 ∧ F 4 = C 2 ∧ ∃ p, p < np ∧ C 1 = nI p) ∨
     (C 6 = nI 2 ∧ F 1 = nI 23 ∧ F 2 = C 1 ∧ ∃ l, l < nl ∧ C 1 = nI l) ∨
     (C 6 = nI 3 ∧ F 1 = nI 24 ∧ F 2 = C 1 ∧ ∃ k, k < no ∧ C 1 = nI k))) ∨
  (C 0 = nI 7 ∧ F 0 = nI 25 ∧ F 1 = C 1 ∧ ∃ n, 1 ≤ n ∧ n ≤ 99 ∧ C 1 = nI n) ∨
  (C 0 = nI 8 ∧ F 0 = nI 27)
/-- steps s to e of the reference are the class's rows r to r' -/
def seg (σ : mSt) (t : Nat) (c : Nat → Int32) (np no nl : Nat) : Nat → Nat → Nat → Nat → Nat → Prop
  | 0, s, e, r, r' => s = e ∧ r = r'
  | f + 1, s, e, r, r' => (s = e ∧ r = r') ∨ (s < e ∧ r < r' ∧ stepRow σ t c np no nl s r ∧
      (((c (324 + 9 * s) ≠ nI 6 ∧ c (324 + 9 * s) ≠ nI 7) ∧ c (324 + 9 * s + 8) = nI (s + 1) ∧ seg σ t c np no nl f (s + 1) e (r + 1) r') ∨
       ((c (324 + 9 * s) = nI 6 ∨ c (324 + 9 * s) = nI 7) ∧ ∃ s1 r1, s < s1 ∧ s1 ≤ e ∧ r < r1 ∧ r1 < r' ∧ c (324 + 9 * s + 8) = nI s1 ∧ seg σ t c np no nl f (s + 1) s1 (r + 1) r1 ∧ σ.1 (t + 13) (r1 * 7) = nI 26 ∧ σ.1 (t + 13) (r1 * 7 + 6) = nI r ∧ σ.1 (t + 13) (r * 7 + 6) = nI r1 ∧ seg σ t c np no nl f s1 e (r1 + 1) r')))
def DRel (σ : mSt) (t : Nat) (c : Nat → Int32) (np no nl : Nat) : Prop :=
  σ.1 (t + 12) 5 = c 322 ∧ (c 322 = 0 ∨ (c 322 = 1 ∧ ∃ n r, n ≤ 30 ∧ r ≤ 60 ∧ c 323 = nI n ∧ σ.1 (t + 12) 4 = nI n ∧ σ.1 (t + 12) 3 = nI r ∧ seg σ t c np no nl 31 0 n 0 r))
/-- the TOWN at t is the one of the reference's row c, names w -/
def TRel (σ : mSt) (t : Nat) (c : Nat → Int32) (w : Nat → Int64) (np no nl nk dy : Nat) : Prop :=
  (np ≤ 8 ∧ no ≤ 4 ∧ nl ≤ 8 ∧ nk ≤ 40 ∧ dy ≤ 99) ∧
  (σ.1 t 13 = nI np ∧ c 0 = nI np) ∧ (σ.1 t 14 = nI no ∧ c 1 = nI no) ∧ (σ.1 t 15 = nI nl ∧ c 2 = nI nl) ∧ (σ.1 (t + 3) 8 = nI nk ∧ c 3 = nI nk) ∧ (σ.1 t 16 = nI dy ∧ c 4 = nI dy) ∧
  (σ.1 t 18 = c 5 ∧ ∃ x, x < 16 ∧ c 5 = nI x) ∧
  (∀ p, p < np → σ.1 (t + 15) p = c (6 + p) ∧ σ.1 (t + 16) p = c (14 + p) ∧ σ.1 (t + 17) p = c (22 + p)) ∧
  (∀ k, k < no → σ.1 (t + 18) k = c (30 + k) ∧ ∃ r, r ≤ 16 ∧ c (30 + k) = nI r) ∧
  (∀ l, l < nl → LRel σ t c np no l) ∧ (∃ x, x < 2 ^ nl ∧ σ.1 t 17 = nI x) ∧
  (∀ k, k < nk → PRel σ t c np nl k) ∧
  (NRel σ t w 0 np 8 ∧ NRel σ t w 8 no 4 ∧ NRel σ t w 12 nl 8) ∧
  DRel σ t c np no nl
def isTown (σ : mSt) (t : Nat) (c : Nat → Int32) (w : Nat → Int64) : Prop := ∃ np no nl nk dy, TRel σ t c w np no nl nk dy
def RTr (σ : mSt) : Prop := σ.2 2 = σ.2 169 ∧ σ.1 3 = σ.1 167 ∧ σ.1 4 = σ.1 168 ∧ (∀ k, k < 4 → σ.1 168 k = -1 ∨ ∃ n, n ≤ 60 ∧ σ.1 168 k = nI n)
def RMk (σ : mSt) : Prop := ∃ k, k ≤ 3 ∧ σ.1 0 9 = nI k ∧ σ.1 166 23 = nI k ∧ ∀ i, i < k → isTown σ (91 + 25 * i) (fun j => σ.1 171 (600 * (i + 1) + j)) (fun j => σ.2 173 (20 * (i + 1) + j))
def RLv (σ : mSt) : Prop := σ.1 0 15 = σ.1 166 37 ∧ (σ.1 166 37 = 0 ∨ (σ.1 166 37 = 1 ∧ σ.1 73 4 = σ.1 183 0 ∧ σ.1 73 5 = σ.1 183 1 ∧ σ.1 73 6 = σ.1 183 2 ∧ σ.1 73 7 = σ.1 183 3 ∧ σ.1 73 8 = σ.1 183 4 ∧ (σ.1 183 4 = 0 ∨ σ.1 183 4 = 1)))
def RRg (σ : mSt) : Prop := ∃ k, k ≤ 8 ∧ σ.1 68 4 = nI k ∧ σ.1 166 33 = nI k ∧ ∀ i, i < k → σ.1 72 i = σ.1 180 i
def kwV : List Int64 := [542723566, 17484389, 514222, 591150, 408614, 89, 302, 494, 650415283, 6700722, 17800013413, 486, 215533, 655, 6642, 66917, 754996, 5172, 16441, 2692139, 762030, 4153, 8243, 2141348, 23732, 409072, 5572, 643568]
def RKw (σ : mSt) : Prop := ∀ k, k < 28 → σ.2 8 k = kwV.getD k 0
def isBy (v : Int32) : Prop := -128 ≤ v.toInt ∧ v.toInt ≤ 127
/-- whether a promise was let go is 0 or 1, also where no promise is -/
def RBo (σ : mSt) : Prop := ∀ t, isT t → ∀ k, σ.1 (t + 9) k = 0 ∨ σ.1 (t + 9) k = 1
def Inv (σ : mSt) : Prop :=
  σ.1 0 10 = σ.1 166 0 ∧ (σ.2 0 11 = σ.2 166 2 ∧ σ.2 0 12 = σ.2 166 3) ∧ (σ.1 0 13 = σ.1 166 10 ∧ σ.1 0 14 = σ.1 166 11) ∧
  (σ.1 7 = σ.1 170 ∧ σ.1 6 2 = σ.1 166 8 ∧ (∀ k, isBy (σ.1 170 k)) ∧ ∃ n, n ≤ 900 ∧ σ.1 166 8 = nI n) ∧ (σ.1 177 0 = 0 ∧ σ.1 178 0 = 0 ∧ RBo σ) ∧
  RTr σ ∧ RMk σ ∧ RLv σ ∧ RRg σ ∧ RKw σ ∧ isTown σ 10 (σ.1 171) (σ.2 173)
/-- only places of S have changed -/
def qt (S : Nat → Nat → Bool) (σ τ : mSt) : Prop := ∀ o k, S o k = false → τ.1 o k = σ.1 o k ∧ τ.2 o k = σ.2 o k
theorem qt_rf {S : Nat → Nat → Bool} {σ : mSt} : qt S σ σ := fun _ _ _ => ⟨rfl, rfl⟩
theorem qt_tr {S : Nat → Nat → Bool} {σ τ υ : mSt} (h : qt S σ τ) (g : qt S τ υ) : qt S σ υ := fun o k hs => ⟨(g o k hs).1.trans (h o k hs).1, (g o k hs).2.trans (h o k hs).2⟩
theorem qt_sI {S : Nat → Nat → Bool} {σ τ : mSt} {a b : Nat} {v : Int32} (h : qt S σ τ) (hs : S a b = true) : qt S σ (sI τ a b v) := fun o k h0 => by
  have hn : ¬ (o = a ∧ k = b) := fun q => by rw [q.1, q.2, hs] at h0; cases h0
  exact ⟨by rw [sI_rd, if_neg hn]; exact (h o k h0).1, (h o k h0).2⟩
theorem qt_sL {S : Nat → Nat → Bool} {σ τ : mSt} {a b : Nat} {v : Int64} (h : qt S σ τ) (hs : S a b = true) : qt S σ (sL τ a b v) := fun o k h0 => by
  have hn : ¬ (o = a ∧ k = b) := fun q => by rw [q.1, q.2, hs] at h0; cases h0
  exact ⟨(h o k h0).1, by rw [sL_rd, if_neg hn]; exact (h o k h0).2⟩
theorem qt_mono {S T : Nat → Nat → Bool} {σ τ : mSt} (h : qt S σ τ) (hs : ∀ o k, S o k = true → T o k = true) : qt T σ τ := fun o k h0 => h o k (by
  cases e : S o k with
  | false => rfl
  | true => rw [hs o k e] at h0; cases h0)
theorem seg_q {S : Nat → Nat → Bool} {σ τ : mSt} {t : Nat} {c : Nat → Int32} {np no nl : Nat} (h : qt S σ τ) (hS : ∀ k, S (t + 13) k = false) : ∀ (f s e r r' : Nat), seg σ t c np no nl f s e r r' → seg τ t c np no nl f s e r r'
  | 0, s, e, r, r', g => g
  | f + 1, s, e, r, r', g => by
    have e1 : ∀ k, τ.1 (t + 13) k = σ.1 (t + 13) k := fun k => (h _ _ (hS k)).1
    rcases g with g | ⟨g1, g2, g3, g4⟩
    · exact Or.inl g
    · refine Or.inr ⟨g1, g2, by simpa only [stepRow, e1] using g3, ?_⟩
      rcases g4 with ⟨a1, a2, a3⟩ | ⟨a1, s1, r1, a2, a3, a4, a5, a6, a7, a8, a9, a10, a11⟩
      · exact Or.inl ⟨a1, a2, seg_q h hS f _ _ _ _ a3⟩
      · exact Or.inr ⟨a1, s1, r1, a2, a3, a4, a5, a6, seg_q h hS f _ _ _ _ a7, by rw [e1]; exact a8, by rw [e1]; exact a9, by rw [e1]; exact a10, seg_q h hS f _ _ _ _ a11⟩
/-- a town stays under what does not touch its cells -/
theorem TRel_q {S : Nat → Nat → Bool} {σ τ : mSt} {t : Nat} {c : Nat → Int32} {w : Nat → Int64} {np no nl nk dy : Nat} (h : qt S σ τ) (hS : ∀ j k, j < 25 → j ≠ 10 → j ≠ 11 → S (t + j) k = false) (g : TRel σ t c w np no nl nk dy) : TRel τ t c w np no nl nk dy := by
  have e0 : ∀ k, τ.1 t k = σ.1 t k := fun k => (h t k (hS 0 k (by omega) (by omega) (by omega))).1
  have e1 : ∀ j k, j < 25 → j ≠ 10 → j ≠ 11 → τ.1 (t + j) k = σ.1 (t + j) k := fun j k a b d => (h _ _ (hS j k a b d)).1
  have e2 : ∀ k, τ.2 (t + 2) k = σ.2 (t + 2) k := fun k => (h _ _ (hS 2 k (by omega) (by omega) (by omega))).2
  obtain ⟨g1, g2, g3, g4, g5, g6, g7, g8, g9, g10, g11, g12, g13, g14⟩ := g
  refine ⟨g1, by rw [e0]; exact g2, by rw [e0]; exact g3, by rw [e0]; exact g4, by rw [e1 3 8 (by omega) (by omega) (by omega)]; exact g5, by rw [e0]; exact g6, by rw [e0]; exact g7, fun p hp => ?_, fun k hk => ?_, fun l hl => ?_, by rw [e0]; exact g11, fun k hk => ?_, ?_, ?_⟩
  · rw [e1 15 _ (by omega) (by omega) (by omega), e1 16 _ (by omega) (by omega) (by omega), e1 17 _ (by omega) (by omega) (by omega)]; exact g8 p hp
  · rw [e1 18 _ (by omega) (by omega) (by omega)]; exact g9 k hk
  · have := g10 l hl
    unfold LRel at this ⊢
    rw [e0, e1 19 _ (by omega) (by omega) (by omega), e1 20 _ (by omega) (by omega) (by omega), e1 21 _ (by omega) (by omega) (by omega), e1 22 _ (by omega) (by omega) (by omega), e1 23 _ (by omega) (by omega) (by omega), e1 24 _ (by omega) (by omega) (by omega)]
    exact this
  · have := g12 k hk
    unfold PRel at this ⊢
    rw [e1 4 _ (by omega) (by omega) (by omega), e1 5 _ (by omega) (by omega) (by omega), e1 6 _ (by omega) (by omega) (by omega), e1 7 _ (by omega) (by omega) (by omega), e1 8 _ (by omega) (by omega) (by omega), e1 9 _ (by omega) (by omega) (by omega)]
    exact this
  · unfold NRel at g13 ⊢
    simpa only [e2] using g13
  · obtain ⟨a1, a2⟩ := g14
    refine ⟨by rw [e1 12 _ (by omega) (by omega) (by omega)]; exact a1, ?_⟩
    rcases a2 with a2 | ⟨a2, n, r, a3, a4, a5, a6, a7, a8⟩
    · exact Or.inl a2
    · exact Or.inr ⟨a2, n, r, a3, a4, a5, by rw [e1 12 _ (by omega) (by omega) (by omega)]; exact a6, by rw [e1 12 _ (by omega) (by omega) (by omega)]; exact a7, seg_q h (fun k => hS 13 k (by omega) (by omega) (by omega)) _ _ _ _ _ a8⟩
