/-! what comes, and how it is dealt -/
theorem b2i_T {i : Decidable True} : @b2i True i = 1 := if_pos trivial
theorem b2i_F {i : Decidable False} : @b2i False i = 0 := if_neg id
def mn (a b : Int32) : Int32 := if a < b then a else b
theorem mn_c {a b : Int32} : (if a < b then a else b) = if b < a then b else a := by
  by_cases h : a < b
  · rw [if_pos h, if_neg (Int32.not_lt.mpr (Int32.le_of_lt h))]
  · rw [if_neg h]
    by_cases h2 : b < a
    · rw [if_pos h2]
    · rw [if_neg h2]; exact Int32.le_antisymm (Int32.not_lt.mp h2 |> fun q => by simpa using Int32.not_lt.mp h) (Int32.not_lt.mp h2)
def cF (c : Nat → Int32) (l : Nat) (wet : Int32) : Int32 := if c (42 + l) < 0 then 0 else if wet = 0 then c (58 + l) else c (58 + l) / nI 2
theorem Tw_comesOf {E : mEn} {d : Nat} {σ : mSt} {Q : mPost} {t nl l np no : Nat} {c : Nat → Int32} {b : Int32} (ht : isT t) (h : σ.1 t 15 = nI nl) (hn : nl ≤ 8) (hl : l < nl) (hr : LRel σ t c np no l) : WP E (d + 1) mTw_comesOf 0 [.ref t, .int (nI l), .int b] [] σ Q = Q (some (.int (cF c l b))) σ := by
  have e1 : σ.1 (t + 20) l = c (42 + l) := hr.2.1.1
  have e2 : σ.1 (t + 22) l = c (58 + l) := hr.2.2.2.1.1
  simp (disch := first | omega | assumption | exact b2i_or | exact T10 | exact Or.inl rfl | exact Or.inr rfl) only [bTw_comesOf_0, bTw_comesOf_5, bTw_comesOf_8, bTw_comesOf_17, bTw_comesOf_19, bTw_comesOf_23, bTw_comesOf_34, bTw_comesOf_40, Tw_hasLoaf ht h hn, tl_s, mOut_f hl (show nl ≤ 2 ^ 31 by omega), mOut_f, nI_clamp, e1, e2, b2i_T, b2i_F, i10, not_true_eq_false, not_false_eq_true, and_self, and_true, true_and, and_false, false_and, or_true, true_or, or_false, false_or, or_self, if_true, if_false, ite_self, eq_self, Bool.false_eq_true, Bool.true_eq_false]
  unfold cF
  by_cases q : c (42 + l) < 0
  · rw [if_neg (Int32.not_le.mpr q), if_pos q]
  · rw [if_pos (Int32.not_lt.mp q), if_neg q]
    by_cases w : b = 0 <;> simp only [w, not_true_eq_false, not_false_eq_true, and_self, and_true, true_and, and_false, false_and, or_true, true_or, or_false, false_or, or_self, if_true, if_false, ite_self, eq_self, Bool.false_eq_true, Bool.true_eq_false]
theorem Mo_comes {E : mEn} {d : Nat} {σ : mSt} {Q : mPost} {l : Nat} {b : Int32} (hl : l < 8) : WP E (d + 1) mMo_comes 0 [.ref 166, .int (nI l), .int b] [] σ Q = Q (some (.int (cF (σ.1 171) l b))) σ := by
  unfold cF
  by_cases q : σ.1 171 (42 + l) < 0
  · simp (disch := first | omega | assumption | exact b2i_or | exact T10 | exact Or.inl rfl | exact Or.inr rfl) only [bMo_comes_0, bMo_comes_5, bMo_comes_8, bMo_comes_12, bMo_comes_16, bMo_comes_30, bMo_comes_39, Mo_isPaper hl, tl_s, nI_add, nI_1, pk_mul, mOut_f, nI_clamp, q, b2i_T, b2i_F, i10, not_true_eq_false, not_false_eq_true, and_self, and_true, true_and, and_false, false_and, or_true, true_or, or_false, false_or, or_self, if_true, if_false, ite_self, eq_self, Bool.false_eq_true, Bool.true_eq_false]
  · by_cases w : b = 0 <;> simp (disch := first | omega | assumption | exact b2i_or | exact T10 | exact Or.inl rfl | exact Or.inr rfl) only [bMo_comes_0, bMo_comes_5, bMo_comes_8, bMo_comes_12, bMo_comes_16, bMo_comes_30, bMo_comes_39, Mo_isPaper hl, tl_s, nI_add, nI_1, pk_mul, mOut_f, nI_clamp, q, w, b2i_T, b2i_F, i10, not_true_eq_false, not_false_eq_true, and_self, and_true, true_and, and_false, false_and, or_true, true_or, or_false, false_or, or_self, if_true, if_false, ite_self, eq_self, Bool.false_eq_true, Bool.true_eq_false]
/-- the row f from k on is L -/
def qs (f : Nat → Int32) (k : Nat) (L : List Nat) : Prop := ∀ j x, L[j]? = some x → f (k + j) = nI x
theorem qs_h {f : Nat → Int32} {k x : Nat} {L : List Nat} (h : qs f k (x :: L)) : f k = nI x := by simpa using h 0 x rfl
theorem qs_t {f : Nat → Int32} {k x : Nat} {L : List Nat} (h : qs f k (x :: L)) : qs f (k + 1) L := fun j y hy => by
  have := h (j + 1) y (by simpa using hy)
  rw [show k + 1 + j = k + (j + 1) by omega]; exact this
theorem qs_r {f : Nat → Int32} {R : List Nat} (h : qm f R) : qs f 0 R.reverse := fun j x hx => by
  have hj : j < R.reverse.length := by
    rcases Nat.lt_or_ge j R.reverse.length with g | g
    · exact g
    · rw [List.getElem?_eq_none g] at hx; cases hx
  rw [List.length_reverse] at hj
  rw [List.getElem?_reverse hj] at hx
  have := h _ x hx
  rw [show 0 + j = R.length - 1 - (R.length - 1 - j) by omega]; exact this
/-- the row dealt along L out of what is left -/
def dA (held : Nat → Int32) : List Nat → (Nat → Int32) → Int32 → Nat → Int32
  | [], A, _ => A
  | x :: L, A, left => dA held L (upd A x (mn left (held x))) (left - mn left (held x))
theorem dA_c {held held' : Nat → Int32} : ∀ (L : List Nat) (A B : Nat → Int32) (n : Int32), (∀ x ∈ L, held x = held' x) → (∀ p, p < 8 → A p = B p) → ∀ p, p < 8 → dA held L A n p = dA held' L B n p
  | [], A, B, n, h, g => g
  | x :: L, A, B, n, h, g => by
    intro p hp
    rw [dA, dA, h x List.mem_cons_self]
    refine dA_c L _ _ _ (fun y hy => h y (List.mem_cons_of_mem _ hy)) (fun q hq => ?_) p hp
    unfold upd
    split
    · rfl
    · exact g q hq
def SHg (h o k : Nat) : Bool := o == h + 4
theorem Sh_deal_loop {E : mEn} {d : Nat} {Q : mPost} {h : Nat} {held : Nat → Int32} (hh : isH h) {w : Nat} (hw : w ≤ 8) {b : Int32} : ∀ (L : List Nat) (k : Nat) (τ : mSt) (left : Int32) (u : Value), k + L.length = w → τ.1 h 6 = nI w → (∀ x ∈ L, x < 8) → qs (τ.1 (h + 3)) k L → (∀ p, p < 8 → τ.1 (h + 1) p = held p) →
    (∀ υ, qt (SHg h) τ υ → (∀ p, p < 8 → υ.1 (h + 4) p = dA held L (τ.1 (h + 4)) left p) → Q none υ) → WP E d mSh_deal 12 [.ref h, .int b, .int left, .int (nI k), u] [] τ Q
  | [], k, τ, left, u, e, h6, hL, hq, hd, hQ => by
    have e' : k = w := by simpa using e
    rw [bSh_deal_12 hh, h6, if_pos (nI_le (by omega) (by omega)), bSh_deal_62 hh]
    exact hQ τ qt_rf (fun p _ => rfl)
  | x :: L, k, τ, left, u, e, h6, hL, hq, hd, hQ => by
    have e' : k + L.length + 1 = w := by simpa [Nat.add_assoc] using e
    have hx : x < 8 := hL x List.mem_cons_self
    rw [bSh_deal_12 hh, h6, if_neg (nI_ge (by omega) (by omega)), bSh_deal_20 hh, mOut_f (by omega) (by omega), nI_clamp (by omega), qs_h hq, mOut_f hx (by omega), nI_clamp (by omega), if_neg (by decide), if_neg (by decide), if_neg (by decide), bSh_deal_46 hh, mOut_f hx (by omega), nI_clamp (by omega), if_neg (by decide), nI_1, sI_rd, if_pos ⟨rfl, rfl⟩, hd x hx]
    refine Sh_deal_loop (held := held) hh hw L (k + 1) _ _ _ (by omega) (by rw [sI_rd, if_neg (by omega)]; exact h6) (fun y hy => hL y (List.mem_cons_of_mem _ hy)) (by rw [sI_o (by omega)]; exact qs_t hq) (fun p hp => by rw [sI_rd, if_neg (by omega)]; exact hd p hp) (fun υ q g => ?_)
    refine hQ υ (qt_tr (qt_sI qt_rf (by simp [SHg])) q) (fun p hp => ?_)
    rw [g p hp, sI_u]
    rfl
def DL (τ : mSt) (o : Nat) (c : Nat → Int32) (l np nk : Nat) (n : Int32) : Prop := ∀ p, p < 8 → τ.1 o p = dA (fun p => hF c l p nk) (LF c l np nk).reverse (fun _ => 0) n p
theorem LF_mem {c : Nat → Int32} {l np nk x : Nat} (h : x ∈ LF c l np nk) : x < np ∧ 0 < hF c l x nk := RF_mem np x h
theorem LF_len {c : Nat → Int32} {l np nk : Nat} : (LF c l np nk).length ≤ np := RF_len np
theorem isH_lt {h : Nat} (hh : isH h) : h + 6 < 1000 := by rcases hh with rfl | rfl | rfl <;> omega
theorem Sh_deal {E : mEn} {d : Nat} {Q : mPost} {h l np nk : Nat} {c : Nat → Int32} {τ : mSt} {n : Int32} {u1 u2 u3 : Value} (hh : isH h) (hnp : np ≤ 8) (hS : HS τ h c l nk) (hL : LN τ h (LF c l np nk)) (hQ : ∀ υ, qt (SHg h) τ υ → DL υ (h + 4) c l np nk n → Q none υ) : WP E (d + 1) mSh_deal 0 [.ref h, .int n, u1, u2, u3] [] τ Q := by
  have len := LF_len (c := c) (l := l) (np := np) (nk := nk)
  rw [bSh_deal_0 hh, Ar_fill (shH_4 hh) (by have := isH_lt hh; omega) (by omega), tl_n, bSh_deal_8 hh, show (0 : Int32) = nI 0 from rfl]
  refine Sh_deal_loop (held := fun p => hF c l p nk) hh (w := (LF c l np nk).length) (by omega) (LF c l np nk).reverse 0 _ _ _ (by simp) ?_ (fun x hx => by have := (LF_mem (List.mem_reverse.mp hx)).1; omega) ?_ (fun p hp => ?_) (fun υ q g => ?_)
  · unfold fillI; dsimp only; rw [if_neg (by omega)]; exact hL.1
  · have e : (fillI τ (h + 4) 0 8 (nI 0)).1 (h + 3) = τ.1 (h + 3) := by funext b; unfold fillI; dsimp only; rw [if_neg (by omega)]
    rw [e]; exact qs_r hL.2
  · unfold fillI; dsimp only; rw [if_neg (by omega)]; exact (hS p hp).1
  · refine hQ υ (qt_tr (qt_fI qt_rf (fun b => by simp [SHg])) q) (fun p hp => ?_)
    rw [g p hp]
    refine dA_c _ _ _ _ (fun _ _ => rfl) (fun p hp => ?_) p hp
    unfold fillI; dsimp only; rw [if_pos (by omega)]; rfl
def SGm (o k : Nat) : Bool := o == 176
def SDl (o k : Nat) : Bool := o == 175 || o == 176 || (o == 166 && k == 28)
theorem Mo_deal_0 {E : mEn} {d : Nat} {Q : mPost} {a1 a2 : Int32} {u : Value} : ∀ (j k : Nat) (τ : mSt), k + j = 8 → WP E d mMo_deals 7 [.ref 166, .int a1, .int a2, .int (nI k), u] [] τ Q = WP E d mMo_deals 26 [.ref 166, .int a1, .int a2, .int (nI 8), u] [] (fillI τ 176 k j 0) Q
  | 0, k, τ, e => by
    rw [bMo_deals_7, if_pos (nI_le (by omega) (by omega)), fillI_0, show k = 8 by omega]
  | j + 1, k, τ, e => by
    rw [bMo_deals_7, if_neg (nI_ge (by omega) (by omega)), bMo_deals_13, mOut_f (by omega) (by omega), nI_clamp (by omega), if_neg (by decide), nI_1, Mo_deal_0 j (k + 1) _ (by omega), fillI_s]
theorem Mo_deal_loop {E : mEn} {d : Nat} {Q : mPost} {l nk : Nat} {c : Nat → Int32} (hl : l < 8) (hk : c 3 = nI nk) (hn : nk ≤ 40) {w : Nat} (hw : w ≤ 8) {b : Int32} : ∀ (L : List Nat) (k : Nat) (τ : mSt) (left : Int32), k + L.length = w → τ.1 166 28 = nI w → (∀ x ∈ L, x < 8) → qs (τ.1 175) k L → τ.1 171 = c →
    (∀ υ, qt SGm τ υ → (∀ p, p < 8 → υ.1 176 p = dA (fun p => hF c l p nk) L (τ.1 176) left p) → Q none υ) → WP E (d + 4) mMo_deals 36 [.ref 166, .int (nI l), .int b, .int left, .int (nI k)] [] τ Q
  | [], k, τ, left, e, h6, hL, hq, hc, hQ => by
    have e' : k = w := by simpa using e
    rw [bMo_deals_36, h6, if_pos (nI_le (by omega) (by omega)), bMo_deals_94]
    exact hQ τ qt_rf (fun p _ => rfl)
  | x :: L, k, τ, left, e, h6, hL, hq, hc, hQ => by
    have e' : k + L.length + 1 = w := by simpa [Nat.add_assoc] using e
    have hx : x < 8 := hL x List.mem_cons_self
    have hx' := qs_h hq
    rw [bMo_deals_36, h6, if_neg (nI_ge (by omega) (by omega)), bMo_deals_45, mOut_f (by omega) (by omega), nI_clamp (by omega), hx', if_neg (by decide), if_neg (by decide), Mo_holdsOf hl hx (by rw [hc]; exact hk) hn, tl_s, bMo_deals_69, mOut_f hx (by omega), nI_clamp (by omega), mOut_f (by omega) (by omega), nI_clamp (by omega), sI_rd, if_neg (show ¬ (175 = 176 ∧ k = x) by omega), hx', mOut_f hx (by omega), nI_clamp (by omega), if_neg (by decide), if_neg (by decide), if_neg (by decide), nI_1, sI_rd, if_pos ⟨rfl, rfl⟩, hc, mn_c]
    refine Mo_deal_loop hl hk hn hw L (k + 1) _ _ (by omega) (by rw [sI_rd, if_neg (by omega)]; exact h6) (fun y hy => hL y (List.mem_cons_of_mem _ hy)) (by rw [sI_o (by omega)]; exact qs_t hq) ((sI_o (by omega)).trans hc) (fun υ q g => ?_)
    refine hQ υ (qt_tr (qt_sI qt_rf rfl) q) (fun p hp => ?_)
    rw [g p hp, sI_u]
    rfl
theorem Mo_deals {E : mEn} {d : Nat} {Q : mPost} {σ : mSt} {l np nk : Nat} {b : Int32} {u1 u2 : Value} (hl : l < 8) (hc0 : σ.1 171 0 = nI np) (hnp : np ≤ 8) (hk : σ.1 171 3 = nI nk) (hn : nk ≤ 40) (hQ : ∀ υ, qt SDl σ υ → LNm υ (LF (σ.1 171) l np nk) → DL υ 176 (σ.1 171) l np nk (cF (σ.1 171) l b) → Q none υ) : WP E (d + 5) mMo_deals 0 [.ref 166, .int (nI l), .int b, u1, u2] [] σ Q := by
  have len := LF_len (c := σ.1 171) (l := l) (np := np) (nk := nk)
  rw [bMo_deals_0]
  refine Mo_lines hl hc0 hnp hk hn (fun τ q g => ?_)
  have hc : τ.1 171 = σ.1 171 := funext fun k => (q 171 k rfl).1
  have hc' : (fillI τ 176 0 8 0).1 171 = σ.1 171 := hc
  rw [tl_n, bMo_deals_5, show (0 : Int32) = nI 0 from rfl, Mo_deal_0 8 0 _ (by omega), bMo_deals_26, Mo_comes hl, tl_s, bMo_deals_32, hc', show (0 : Int32) = nI 0 from rfl]
  refine Mo_deal_loop hl hk hn (w := (LF (σ.1 171) l np nk).length) (by omega) (LF (σ.1 171) l np nk).reverse 0 _ _ (by simp) g.1 (fun x hx => by have := (LF_mem (List.mem_reverse.mp hx)).1; omega) (qs_r g.2) hc' (fun υ q2 g2 => ?_)
  refine hQ υ (qt_tr (qt_tr (qt_mono q (fun o k h => by simp only [SLn, SDl, Bool.or_eq_true] at h ⊢; rcases h with h | h <;> simp [h])) (qt_fI (τ := τ) (a := 176) (lo := 0) (n := 8) (v := nI 0) qt_rf (fun b => rfl))) (qt_mono q2 (fun o k h => by simp only [SGm, SDl, Bool.or_eq_true] at h ⊢; simp [h]))) ⟨?_, ?_⟩ (fun p hp => ?_)
  · rw [(q2 166 28 rfl).1]; exact g.1
  · rw [show υ.1 175 = τ.1 175 from funext fun k => (q2 175 k rfl).1]; exact g.2
  · rw [g2 p hp]
    refine dA_c _ _ _ _ (fun _ _ => rfl) (fun p hp => ?_) p hp
    unfold fillI; dsimp only; rw [if_pos (by omega)]; rfl
