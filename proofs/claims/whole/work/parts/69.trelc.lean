/-! how a town stays one when parts of it change, or when it is copied -/
theorem upd_e {f : Nat → Int32} {k : Nat} {x : Int32} : upd f k x k = x := if_pos rfl
theorem upd_n {f : Nat → Int32} {k j : Nat} {x : Int32} (h : j ≠ k) : upd f k x j = f j := if_neg h
theorem sI_e {σ : mSt} {o k : Nat} {v : Int32} : (sI σ o k v).1 o k = v := if_pos ⟨rfl, rfl⟩
theorem sI_n {σ : mSt} {o k a b : Nat} {v : Int32} (h : a ≠ o ∨ b ≠ k) : (sI σ o k v).1 a b = σ.1 a b := if_neg (fun g => h.elim (fun x => x g.1) (fun x => x g.2))
def stepP (C F : Nat → Int32) (np no nl : Nat) : Prop :=
  (C 0 = 0 ∧ F 0 = nI 10 ∧ F 1 = C 1 ∧ F 2 = C 2 ∧ F 3 = C 3 ∧ F 4 = C 4 ∧ F 5 = C 5 ∧ (∃ n, 1 ≤ n ∧ n ≤ 99 ∧ C 1 = nI n) ∧ (∃ l, l < nl ∧ C 2 = nI l) ∧ (∃ p q, p < np ∧ q < np ∧ p ≠ q ∧ C 3 = nI p ∧ C 4 = nI q) ∧ ∃ f, f ≤ 999 ∧ C 5 = nI f) ∨
  (C 0 = 1 ∧ F 0 = nI 19 ∧ F 1 = C 1 ∧ ∃ n, n ≤ 39 ∧ C 1 = nI n) ∨
  (C 0 = nI 2 ∧ F 0 = nI 15 ∧ F 1 = C 1 ∧ ∃ l, l < nl ∧ C 1 = nI l) ∨
  (C 0 = nI 3 ∧ F 0 = nI 16 ∧ F 1 = C 1 ∧ ∃ n, 1 ≤ n ∧ n ≤ 9 ∧ C 1 = nI n) ∨
  (C 0 = nI 4 ∧ F 0 = nI 17 ∧ F 1 = C 1 ∧ F 2 = C 2 ∧ (∃ p, p < np ∧ C 1 = nI p) ∧ ∃ n, 1 ≤ n ∧ n ≤ 99 ∧ C 2 = nI n) ∨
  (C 0 = nI 5 ∧ F 0 = nI 18 ∧ F 1 = C 1 ∧ F 2 = C 2 ∧ F 3 = C 3 ∧ (∃ p, p < np ∧ C 1 = nI p) ∧ (∃ p, p < np ∧ C 2 = nI p) ∧ ∃ n, 1 ≤ n ∧ n ≤ 999 ∧ C 3 = nI n) ∨
  (C 0 = nI 6 ∧ F 0 = nI 20 ∧
    ((C 6 = 0 ∧ F 1 = nI 21 ∧ F 3 = C 7 ∧ F 4 = C 2) ∨
     (C 6 = 1 ∧ F 1 = nI 22 ∧ F 2 = C 1 ∧ F 3 = C 7 ∧ F 4 = C 2 ∧ ∃ p, p < np ∧ C 1 = nI p) ∨
     (C 6 = nI 2 ∧ F 1 = nI 23 ∧ F 2 = C 1 ∧ ∃ l, l < nl ∧ C 1 = nI l) ∨
     (C 6 = nI 3 ∧ F 1 = nI 24 ∧ F 2 = C 1 ∧ ∃ k, k < no ∧ C 1 = nI k))) ∨
  (C 0 = nI 7 ∧ F 0 = nI 25 ∧ F 1 = C 1 ∧ ∃ n, 1 ≤ n ∧ n ≤ 99 ∧ C 1 = nI n) ∨
  (C 0 = nI 8 ∧ F 0 = nI 27)
theorem stepRow_P {σ : mSt} {t : Nat} {c : Nat → Int32} {np no nl s r : Nat} : stepRow σ t c np no nl s r = stepP (fun j => c (324 + 9 * s + j)) (fun j => σ.1 (t + 13) (r * 7 + j)) np no nl := rfl
theorem stepP_c {C F C' F' : Nat → Int32} {np no nl : Nat} (h1 : ∀ j, j ≤ 8 → C' j = C j) (h2 : ∀ j, j ≤ 6 → F' j = F j) (g : stepP C F np no nl) : stepP C' F' np no nl := by
  unfold stepP at g ⊢
  rw [h1 0 (by omega), h1 1 (by omega), h1 2 (by omega), h1 3 (by omega), h1 4 (by omega), h1 5 (by omega), h1 6 (by omega), h1 7 (by omega), h2 0 (by omega), h2 1 (by omega), h2 2 (by omega), h2 3 (by omega), h2 4 (by omega), h2 5 (by omega)]
  exact g
theorem seg_c {σ τ : mSt} {s t : Nat} {c c' : Nat → Int32} {np no nl : Nat} (h1 : ∀ k, k < 420 → τ.1 (t + 13) k = σ.1 (s + 13) k) (h2 : ∀ i, 322 ≤ i → i < 600 → c' i = c i) : ∀ (f a e r r' : Nat), e ≤ 30 → r' ≤ 60 → seg σ s c np no nl f a e r r' → seg τ t c' np no nl f a e r r'
  | 0, a, e, r, r', he, hr, g => g
  | f + 1, a, e, r, r', he, hr, g => by
    rcases g with g | ⟨g1, g2, g3, g4⟩
    · exact Or.inl g
    · have k0 : c' (324 + 9 * a) = c (324 + 9 * a) := h2 _ (by omega) (by omega)
      have k8 : c' (324 + 9 * a + 8) = c (324 + 9 * a + 8) := h2 _ (by omega) (by omega)
      rw [stepRow_P] at g3
      refine Or.inr ⟨g1, g2, ?_, ?_⟩
      · rw [stepRow_P]
        exact stepP_c (fun j hj => h2 _ (by omega) (by omega)) (fun j hj => h1 _ (by omega)) g3
      rw [k0, k8]
      rcases g4 with ⟨a1, a2, a3⟩ | ⟨a1, s1, r1, a2, a3, a4, a5, a6, a7, a8, a9, a10, a11⟩
      · exact Or.inl ⟨a1, a2, seg_c h1 h2 f _ _ _ _ he hr a3⟩
      · exact Or.inr ⟨a1, s1, r1, a2, a3, a4, a5, a6, seg_c h1 h2 f _ _ _ _ (by omega) (by omega) a7, by rw [h1 _ (by omega)]; exact a8, by rw [h1 _ (by omega)]; exact a9, by rw [h1 _ (by omega)]; exact a10, seg_c h1 h2 f _ _ _ _ he hr a11⟩
theorem LRel_c {σ τ : mSt} {s t : Nat} {c c' : Nat → Int32} {np no l : Nat} (h : LRel σ s c np no l) (e : ∀ j, 19 ≤ j → j ≤ 24 → τ.1 (t + j) l = σ.1 (s + j) l) (eb : bitOf (τ.1 t 17) l ↔ bitOf (σ.1 s 17) l) (ec : ∀ i, 34 ≤ i → i < 82 → (i + 6) % 8 = l → c' i = c i) (hl : l < 8) : LRel τ t c' np no l := by
  unfold LRel at h ⊢
  rw [e 19 (by omega) (by omega), e 20 (by omega) (by omega), e 21 (by omega) (by omega), e 22 (by omega) (by omega), e 23 (by omega) (by omega), e 24 (by omega) (by omega), ec (34 + l) (by omega) (by omega) (by omega), ec (42 + l) (by omega) (by omega) (by omega), ec (50 + l) (by omega) (by omega) (by omega), ec (58 + l) (by omega) (by omega) (by omega), ec (66 + l) (by omega) (by omega) (by omega), ec (74 + l) (by omega) (by omega) (by omega), eb]
  exact h
theorem PRel_c {σ τ : mSt} {s t : Nat} {c c' : Nat → Int32} {np nl k : Nat} (h : PRel σ s c np nl k) (e : ∀ j, 4 ≤ j → j ≤ 9 → τ.1 (t + j) k = σ.1 (s + j) k) (ec : ∀ j, j < 6 → c' (82 + 6 * k + j) = c (82 + 6 * k + j)) : PRel τ t c' np nl k := by
  have e0 : c' (82 + 6 * k) = c (82 + 6 * k) := ec 0 (by omega)
  unfold PRel at h ⊢
  rw [e 4 (by omega) (by omega), e 5 (by omega) (by omega), e 6 (by omega) (by omega), e 7 (by omega) (by omega), e 8 (by omega) (by omega), e 9 (by omega) (by omega), e0, ec 1 (by omega), ec 2 (by omega), ec 3 (by omega), ec 4 (by omega), ec 5 (by omega)]
  exact h
theorem TRel_c {σ τ : mSt} {s t : Nat} {c c' : Nat → Int32} {w w' : Nat → Int64} {np no nl nk dy nk' dy' : Nat} (h : TRel σ s c w np no nl nk dy) (hk : nk' ≤ 40) (hd : dy' ≤ 99)
    (a1 : τ.1 t 13 = σ.1 s 13 ∧ τ.1 t 14 = σ.1 s 14 ∧ τ.1 t 15 = σ.1 s 15)
    (a2 : c' 0 = c 0 ∧ c' 1 = c 1 ∧ c' 2 = c 2)
    (a3 : τ.1 (t + 3) 8 = nI nk' ∧ c' 3 = nI nk') (a4 : τ.1 t 16 = nI dy' ∧ c' 4 = nI dy')
    (a5 : τ.1 t 18 = c' 5 ∧ ∃ x, x < 16 ∧ c' 5 = nI x)
    (a6 : ∀ p, p < np → τ.1 (t + 15) p = c' (6 + p) ∧ τ.1 (t + 16) p = c' (14 + p) ∧ τ.1 (t + 17) p = c' (22 + p))
    (a7 : ∀ k, k < no → τ.1 (t + 18) k = σ.1 (s + 18) k ∧ c' (30 + k) = c (30 + k))
    (a8 : ∀ l, l < nl → LRel τ t c' np no l) (a9 : ∃ x, x < 2 ^ nl ∧ τ.1 t 17 = nI x)
    (a10 : ∀ k, k < nk' → PRel τ t c' np nl k)
    (a11 : ∀ k, k < 20 → τ.2 (t + 2) k = σ.2 (s + 2) k ∧ w' k = w k)
    (a12 : ∀ k, 2 ≤ k → k ≤ 5 → τ.1 (t + 12) k = σ.1 (s + 12) k) (a13 : ∀ k, k < 420 → τ.1 (t + 13) k = σ.1 (s + 13) k)
    (a14 : ∀ i, 322 ≤ i → i < 600 → c' i = c i) : TRel τ t c' w' np no nl nk' dy' := by
  obtain ⟨⟨z1, z2, z3, z4, z5⟩, g2, g3, g4, g5, g6, g7, g8, g9, g10, g11, g12, g13, g14⟩ := h
  refine ⟨⟨z1, z2, z3, hk, hd⟩, ⟨a1.1.trans g2.1, a2.1.trans g2.2⟩, ⟨a1.2.1.trans g3.1, a2.2.1.trans g3.2⟩, ⟨a1.2.2.trans g4.1, a2.2.2.trans g4.2⟩, a3, a4, a5, a6, fun k hk => ?_, a8, a9, a10, ?_, ?_⟩
  · rw [(a7 k hk).1, (a7 k hk).2]; exact g9 k hk
  · obtain ⟨n1, n2, n3⟩ := g13
    have nn : ∀ lo n top, lo + top ≤ 20 → n ≤ top → NRel σ s w lo n top → NRel τ t w' lo n top := fun lo n top h1 h2 g => ⟨fun k hk => by rw [(a11 (lo + k) (by omega)).1, (a11 (lo + k) (by omega)).2]; exact g.1 k hk, fun k h3 h4 => by rw [(a11 (lo + k) (by omega)).1]; exact g.2 k h3 h4⟩
    exact ⟨nn _ _ _ (by omega) (by omega) n1, nn _ _ _ (by omega) (by omega) n2, nn _ _ _ (by omega) (by omega) n3⟩
  · obtain ⟨d1, d2⟩ := g14
    refine ⟨by rw [a12 5 (by omega) (by omega), a14 322 (by omega) (by omega)]; exact d1, ?_⟩
    rw [a14 322 (by omega) (by omega)]
    rcases d2 with d2 | ⟨d2, n, r, d3, d4, d5, d6, d7, d8⟩
    · exact Or.inl d2
    · exact Or.inr ⟨d2, n, r, d3, d4, by rw [a14 323 (by omega) (by omega)]; exact d5, by rw [a12 4 (by omega) (by omega)]; exact d6, by rw [a12 3 (by omega) (by omega)]; exact d7, seg_c a13 a14 _ _ _ _ _ d3 d4 d8⟩
def STc (t o k : Nat) : Bool := decide (t ≤ o) && decide (o < t + 25)
theorem STc_in {t j k : Nat} (h : j < 25) : STc t (t + j) k = true := by simp [STc]; omega
theorem STc_in0 {t k : Nat} : STc t t k = true := by simp [STc]
/-- a town but for its days -/
def STn (t o k : Nat) : Bool := decide (t ≤ o) && decide (o < t + 25) && decide (o ≠ t + 12) && decide (o ≠ t + 13)
theorem STn_in {t j k : Nat} (h : j < 25 ∧ j ≠ 12 ∧ j ≠ 13) : STn t (t + j) k = true := by
  simp only [STn, Bool.and_eq_true, decide_eq_true_eq]; omega
theorem STn_in0 {t k : Nat} : STn t t k = true := by
  simp only [STn, Bool.and_eq_true, decide_eq_true_eq]; omega
theorem STn_c {t o k : Nat} (h : STn t o k = true) : STc t o k = true := by
  simp only [STn, STc, Bool.and_eq_true, decide_eq_true_eq] at h ⊢; omega
/-- let go or not: as it was, or 0, or 1 -/
def GB (σ τ : mSt) (t : Nat) : Prop := ∀ k, τ.1 (t + 9) k = σ.1 (t + 9) k ∨ τ.1 (t + 9) k = 0 ∨ τ.1 (t + 9) k = 1
theorem GB_e {σ τ : mSt} {t : Nat} (h : ∀ k, τ.1 (t + 9) k = σ.1 (t + 9) k) : GB σ τ t := fun k => Or.inl (h k)
theorem GB_tr {σ τ υ : mSt} {t : Nat} (h : GB σ τ t) (g : GB τ υ t) : GB σ υ t := fun k => by
  rcases g k with e | e
  · rw [e]; exact h k
  · exact Or.inr e
def SCl (o k : Nat) : Bool := (decide (10 ≤ o) && decide (o ≤ 34)) || (decide (61 ≤ o) && decide (o ≤ 67))
def S171 (o k : Nat) : Bool := o == 171 && decide (k < 322)
def SMo (o k : Nat) : Bool := decide (166 ≤ o) && (SQ o k || S171 o k)
def STw (o k : Nat) : Bool := SQ o k || ((decide (10 ≤ o) && decide (o ≤ 34)) || (o == 171 && decide (k < 322)))
theorem STw_T {t j k : Nat} (ht : 91 ≤ t ∧ t ≤ 141) (hj : j < 25) (h1 : j ≠ 10) (h2 : j ≠ 11) : STw (t + j) k = false := by
  simp only [STw, SQ, Bool.or_eq_false_iff, Bool.and_eq_false_iff, beq_eq_false_iff_ne, decide_eq_false_iff_not, ne_eq]
  omega
theorem Inv_Tw {σ τ : mSt} (h : Inv σ) (q : qt STw σ τ) (hs : τ.1 0 10 = τ.1 166 0) (hgs : τ.1 177 0 = 0 ∧ τ.1 178 0 = 0 ∧ RBo τ) (htw : isTown τ 10 (τ.1 171) (τ.2 173)) : Inv τ := by
  have e1 : ∀ o k, STw o k = false → τ.1 o k = σ.1 o k := fun o k g => (q o k g).1
  have e2 : ∀ o k, STw o k = false → τ.2 o k = σ.2 o k := fun o k g => (q o k g).2
  have f1 : ∀ o, (∀ k, STw o k = false) → τ.1 o = σ.1 o := fun o g => funext fun k => e1 o k (g k)
  have f2 : ∀ o, (∀ k, STw o k = false) → τ.2 o = σ.2 o := fun o g => funext fun k => e2 o k (g k)
  obtain ⟨h1, h2, h3, h4, h5, h6, h7, h8, h9, h10, h11⟩ := h
  refine ⟨hs, ?_, ?_, ?_, ?_, ?_, ?_, ?_, ?_, ?_, ?_⟩
  · rw [e2 0 11 rfl, e2 0 12 rfl, e2 166 2 rfl, e2 166 3 rfl]; exact h2
  · rw [e1 0 13 rfl, e1 0 14 rfl, e1 166 10 rfl, e1 166 11 rfl]; exact h3
  · rw [f1 7 (fun _ => rfl), f1 170 (fun _ => rfl), e1 6 2 rfl, e1 166 8 rfl]; exact h4
  · exact hgs
  · unfold RTr; rw [f2 2 (fun _ => rfl), f2 169 (fun _ => rfl), f1 3 (fun _ => rfl), f1 167 (fun _ => rfl), f1 4 (fun _ => rfl), f1 168 (fun _ => rfl)]; exact h6
  · obtain ⟨k, b1, b2, b3, b4⟩ := h7
    refine ⟨k, b1, by rw [e1 0 9 rfl]; exact b2, by rw [e1 166 23 rfl]; exact b3, fun i hi => ?_⟩
    have ec : (fun j => τ.1 171 (600 * (i + 1) + j)) = fun j => σ.1 171 (600 * (i + 1) + j) := funext fun j => e1 171 _ (by simp only [STw, SQ, Bool.or_eq_false_iff, Bool.and_eq_false_iff, beq_eq_false_iff_ne, decide_eq_false_iff_not, ne_eq]; omega)
    have ew : (fun j => τ.2 173 (20 * (i + 1) + j)) = fun j => σ.2 173 (20 * (i + 1) + j) := funext fun j => e2 173 _ (by simp only [STw, SQ, Bool.or_eq_false_iff, Bool.and_eq_false_iff, beq_eq_false_iff_ne, decide_eq_false_iff_not, ne_eq]; omega)
    rw [ec, ew]
    obtain ⟨np, no, nl, nk, dy, g⟩ := b4 i hi
    exact ⟨np, no, nl, nk, dy, TRel_q q (fun j k' hj x1 x2 => STw_T (by omega) hj x1 x2) g⟩
  · unfold RLv; rw [e1 0 15 rfl, e1 166 37 rfl, e1 73 4 rfl, e1 73 5 rfl, e1 73 6 rfl, e1 73 7 rfl, e1 73 8 rfl, f1 183 (fun _ => rfl)]; exact h8
  · unfold RRg; rw [e1 68 4 rfl, e1 166 33 rfl, f1 72 (fun _ => rfl), f1 180 (fun _ => rfl)]; exact h9
  · unfold RKw; rw [f2 8 (fun _ => rfl)]; exact h10
  · exact htw
theorem SCl_Tw {o k : Nat} (h : SCl o k = true) : STw o k = true := by
  simp only [SCl, STw, SQ, Bool.or_eq_true, Bool.and_eq_true, decide_eq_true_eq, beq_iff_eq, bne_iff_ne, ne_eq] at h ⊢
  omega
theorem SMo_Tw {o k : Nat} (h : SMo o k = true) : STw o k = true := by
  simp only [SMo, S171, STw, Bool.or_eq_true, Bool.and_eq_true, decide_eq_true_eq] at h ⊢
  rcases h.2 with h | h
  · exact Or.inl h
  · exact Or.inr (Or.inr h)
theorem SMo_lt {o k : Nat} (h : o < 166) : SMo o k = false := by simp only [SMo, Bool.and_eq_false_iff, decide_eq_false_iff_not]; left; omega
theorem SCl_ge {o k : Nat} (h : 68 ≤ o) : SCl o k = false := by simp only [SCl, Bool.or_eq_false_iff, Bool.and_eq_false_iff, decide_eq_false_iff_not]; omega
theorem isT_lt {t : Nat} (h : isT t) : 10 ≤ t ∧ t + 25 ≤ 166 ∧ (t = 10 ∨ 35 ≤ t) ∧ (t ≤ 35 ∨ 91 ≤ t) := by rcases h with rfl | rfl | rfl | rfl | rfl <;> omega
/-- the class changes the town, the reference then likewise -/
theorem pairI_t {E : mEn} {d : Nat} {X Y : mM} {ax ay : List Value} {σ : mSt} (hI : Inv σ) (v : Int32) (c' : Nat → Int32) {np no nl nk dy : Nat}
    (hx : ∀ Q : mPost, (∀ τ, qt SCl σ τ → GB σ τ 10 → TRel τ 10 c' (σ.2 173) np no nl nk dy → Q (some (.int v)) (sI τ 0 10 0)) → WP E d X 0 ax [] σ Q)
    (hy : ∀ τ, (∀ o, 166 ≤ o → τ.1 o = σ.1 o ∧ τ.2 o = σ.2 o) → ∀ Q : mPost, (∀ υ, qt SMo τ υ → υ.1 171 = c' → υ.1 166 0 = 0 → Q (some (.int v)) υ) → WP E d Y 0 ay [] τ Q) : pairI E d X Y ax ay σ := by
  refine hx _ (fun τ q1 g h => ⟨v, rfl, hy (sI τ 0 10 0) (fun o ho => ⟨?_, ?_⟩) _ (fun υ p1 p2 p3 => ⟨rfl, ?_⟩)⟩)
  · rw [sI_1 (by omega)]
    exact funext fun k => (q1 o k (SCl_ge (by omega))).1
  · exact funext fun k => (q1 o k (SCl_ge (by omega))).2
  have Z : qt STw σ υ := qt_tr (qt_sI (qt_mono q1 (fun o k => SCl_Tw)) rfl) (qt_mono p1 (fun o k => SMo_Tw))
  have hg := hI.2.2.2.2.1
  refine Inv_Tw hI Z ?_ ⟨?_, ?_, ?_⟩ ⟨np, no, nl, nk, dy, ?_⟩
  · rw [p3, (p1 0 10 rfl).1]; rfl
  · rw [(Z 177 0 rfl).1]; exact hg.1
  · rw [(Z 178 0 rfl).1]; exact hg.2.1
  · intro t ht k
    have tl := isT_lt ht
    rw [(p1 (t + 9) k (SMo_lt (by omega))).1, sI_n (by omega)]
    rcases tl.2.2.1 with e | e
    · subst e
      rcases g k with e | e
      · rw [e]; exact hg.2.2 10 T10 k
      · exact e
    · by_cases h61 : t = 35
      · subst h61
        rw [(q1 _ _ rfl).1]; exact hg.2.2 35 ht k
      · rw [(q1 _ _ (SCl_ge (by omega))).1]; exact hg.2.2 t ht k
  · rw [p2, show υ.2 173 = σ.2 173 from funext fun k => (Z 173 k rfl).2]
    refine TRel_q p1 (fun j k hj _ _ => SMo_lt (by omega)) (TRel_q (S := fun o _ => o == 0) (σ := τ) (qt_sI qt_rf rfl) (fun j k hj _ _ => ?_) h)
    simp
