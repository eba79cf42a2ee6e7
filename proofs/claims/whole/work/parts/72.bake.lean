/-! bake -/
theorem hF_c {c c' : Nat → Int32} {l p : Nat} (h : ∀ i, 34 ≤ i → c' i = c i) : ∀ k, hF c' l p k = hF c l p k
  | 0 => by rw [hF, hF, h _ (by omega), h _ (by omega)]
  | k + 1 => by rw [hF, hF, hF_c h k, h (82 + 6 * k + 5) (by omega), h (82 + 6 * k + 1) (by omega), h (82 + 6 * k + 3) (by omega), h (82 + 6 * k + 2) (by omega), h (82 + 6 * k) (by omega)]
theorem bsOF : ∀ p : Fin 8, ∀ x : Fin 256, nI x.1 ||| (1 <<< (nI p.1 &&& 31)) = nI (x.1 ||| 2 ^ p.1) := by decide +kernel
theorem bsO {x p : Nat} (hp : p < 8) (hx : x < 256) : nI x ||| (1 <<< (nI p &&& 31)) = nI (x ||| 2 ^ p) := bsOF ⟨p, hp⟩ ⟨x, hx⟩
abbrev wtP (c : Nat → Int32) (x : Int32) : Prop := (c 5 >>> (x &&& 31)) &&& 1 = 1
abbrev bkOk (c : Nat → Int32) (l : Nat) : Prop := ¬ c (42 + l) < 0 ∧ c (74 + l) < 0 ∧ c (50 + l) = c 4
theorem Tw_isWet {E : mEn} {d : Nat} {σ : mSt} {Q : mPost} {t o : Nat} {c : Nat → Int32} (ht : isT t) (h : σ.1 t 18 = c 5) (ho : o < 4) : WP E d mTw_isWet 0 [.ref t, .int (nI o)] [] σ Q = Q (some (.int (b2i (wtP c (nI o))))) σ := by
  rw [bTw_isWet_0 ht, if_neg (nI_pos (by omega)), bTw_isWet_4 ht, if_neg (nI_ge (by omega) (by omega)), bTw_isWet_9 ht, h]
  by_cases z : wtP c (nI o)
  · rw [ite_nn z, bTw_isWet_21 ht, bTw_isWet_26 ht (Or.inr rfl), b2i_t z]
  · rw [if_pos z, bTw_isWet_25 ht, bTw_isWet_26 ht (Or.inl rfl), b2i_f z]
theorem Mo_has {E : mEn} {d : Nat} {σ : mSt} {Q : mPost} {a b : Int32} : WP E d mMo_has 0 [.int a, .int b] [] σ Q = Q (some (.int (b2i ((a >>> (b &&& 31)) &&& 1 = 1)))) σ := by
  rw [bMo_has_0]
  by_cases z : (a >>> (b &&& 31)) &&& 1 = 1
  · rw [ite_nn z, bMo_has_9, bMo_has_14 (Or.inr rfl), b2i_t z]
  · rw [if_pos z, bMo_has_13, bMo_has_14 (Or.inl rfl), b2i_f z]
theorem Mo_isWetOven {E : mEn} {d : Nat} {σ : mSt} {Q : mPost} {l : Nat} (hl : l < 8) : WP E (d + 1) mMo_isWetOven 0 [.ref 166, .int (nI l)] [] σ Q = Q (some (.int (b2i (wtP (σ.1 171) (σ.1 171 (42 + l)))))) σ := by
  rw [bMo_isWetOven_0, nI_add, mOut_f (by omega) (by omega), mOut_f (by omega) (by omega), nI_clamp (by omega), if_neg (by decide), if_neg (by decide), Mo_has, tl_s, bMo_isWetOven_18 b2i_or]
theorem Tw_rainsOn {E : mEn} {d : Nat} {σ : mSt} {Q : mPost} {t l np no nl nk dy : Nat} {c : Nat → Int32} {w : Nat → Int64} (ht : isT t) (hT : TRel σ t c w np no nl nk dy) (hl : l < nl) (ho : ¬ c (42 + l) < 0) : WP E (d + 1) mTw_rainsOn 0 [.ref t, .int (nI l)] [] σ Q = Q (some (.int (b2i (wtP c (c (42 + l)))))) σ := by
  obtain ⟨⟨b1, b2, b3, b4, b5⟩, ⟨t1, c1⟩, ⟨t2, c2⟩, ⟨t3, c3⟩, ⟨t4, c4⟩, ⟨t5, c5⟩, c6, gP, gO, gL, gB, gK, -⟩ := id hT
  obtain ⟨e1, hov⟩ := (gL l hl).2.1
  rcases hov with hov | ⟨o, ho4, eo⟩
  · exact absurd (by rw [hov]; decide) ho
  rw [bTw_rainsOn_0 ht, Tw_hasLoaf ht t3 b3, tl_s, bTw_rainsOn_5 ht, b2i_t (mOut_f hl (by omega)), if_neg i10, bTw_rainsOn_8 ht, mOut_f (by omega) (by omega), nI_clamp (by omega), e1, eo, if_neg (by decide), Tw_isWet ht c6.1 (show o < 4 by omega), tl_s, bTw_rainsOn_18 ht]
  by_cases z : wtP c (nI o)
  · rw [b2i_t z, if_neg i10, bTw_rainsOn_21 ht, bTw_rainsOn_26 ht (Or.inr rfl)]
  · rw [b2i_f z, if_pos rfl, bTw_rainsOn_25 ht, bTw_rainsOn_26 ht (Or.inl rfl)]
theorem Tw_canBake {E : mEn} {d : Nat} {σ : mSt} {Q : mPost} {t l np no nl nk dy : Nat} {c : Nat → Int32} {w : Nat → Int64} (ht : isT t) (hT : TRel σ t c w np no nl nk dy) (hl : l < nl) : WP E (d + 2) mTw_canBake 0 [.ref t, .int (nI l)] [] σ Q = Q (some (.int (b2i (bkOk c l)))) σ := by
  obtain ⟨⟨b1, b2, b3, b4, b5⟩, ⟨t1, c1⟩, ⟨t2, c2⟩, ⟨t3, c3⟩, ⟨t4, c4⟩, ⟨t5, c5⟩, c6, gP, gO, gL, gB, gK, -⟩ := id hT
  have e1 := (gL l hl).2.1.1
  have e2 := (gL l hl).2.2.1.1
  rw [bTw_canBake_0 ht, Tw_hasLoaf ht t3 b3, tl_s, bTw_canBake_5 ht, b2i_t (mOut_f hl (by omega)), if_neg i10, bTw_canBake_8 ht, Tw_isPaper ht t3 b3 hl, tl_s, bTw_canBake_13 ht, e1]
  by_cases h1 : c (42 + l) < 0
  · rw [b2i_t h1, if_pos i10, bTw_canBake_41 ht, bTw_canBake_42 ht (Or.inl rfl), b2i_f (fun g => g.1 h1)]
  rw [b2i_f h1, ite_nn rfl, bTw_canBake_16 ht, Tw_isBaked ht t3 b3 hl (gL l hl), tl_s, bTw_canBake_21 ht]
  by_cases h2 : c (74 + l) < 0
  rotate_left
  · rw [b2i_t h2, if_pos i10, bTw_canBake_41 ht, bTw_canBake_42 ht (Or.inl rfl), b2i_f (fun g => h2 g.2.1)]
  rw [b2i_f (fun g => g h2), ite_nn rfl, bTw_canBake_24 ht, mOut_f (by omega) (by omega), nI_clamp (by omega), e2, t5, ← c5, if_neg (show ¬ false = true by decide)]
  by_cases h3 : c (50 + l) = c 4
  · rw [ite_nn h3, bTw_canBake_37 ht, bTw_canBake_42 ht (Or.inr rfl), b2i_t ⟨h1, h2, h3⟩]
  · rw [if_pos h3, bTw_canBake_41 ht, bTw_canBake_42 ht (Or.inl rfl), b2i_f (fun g => h3 g.2.2)]
/-- the reference's row when n persons have got theirs -/
def bkL (c : Nat → Int32) (l np nk : Nat) (wet : Int32) (n : Nat) : Nat → Int32 := fun i => if 14 ≤ i ∧ i < 14 + n then c i + gF c l (i - 14) np nk wet else if 22 ≤ i ∧ i < 22 + n then c i + ow (hF c l (i - 22) nk) else c i
def bkM (c : Nat → Int32) (l np nk : Nat) (wet : Int32) : Nat → Int32 := upd (bkL c l np nk wet np) (22 + bkN c l) (bkL c l np nk wet np (22 + bkN c l) + dnF c l np nk wet)
def bkF (c : Nat → Int32) (l np nk : Nat) (wet : Int32) : Nat → Int32 := upd (bkM c l np nk wet) (74 + l) (cF c l wet)
theorem bkL_0 {c : Nat → Int32} {l np nk : Nat} {wet : Int32} : bkL c l np nk wet 0 = c := by
  funext i
  unfold bkL
  rw [if_neg (by omega), if_neg (by omega)]
theorem bkL_s {c : Nat → Int32} {l np nk n : Nat} {wet : Int32} (hn : n < 8) : upd (upd (bkL c l np nk wet n) (14 + n) (c (14 + n) + gF c l n np nk wet)) (22 + n) (c (22 + n) + ow (hF c l n nk)) = bkL c l np nk wet (n + 1) := by
  funext i
  by_cases h1 : i = 22 + n
  · subst h1
    rw [upd_e]
    unfold bkL
    rw [if_neg (by omega), if_pos (by omega), Nat.add_sub_cancel_left]
  · rw [upd_n h1]
    by_cases h2 : i = 14 + n
    · subst h2
      rw [upd_e]
      unfold bkL
      rw [if_pos (by omega), Nat.add_sub_cancel_left]
    · rw [upd_n h2]
      unfold bkL
      by_cases h3 : 14 ≤ i ∧ i < 14 + n
      · rw [if_pos h3, if_pos (by omega)]
      · rw [if_neg h3, if_neg (c := 14 ≤ i ∧ i < 14 + (n + 1)) (by omega)]
        by_cases h4 : 22 ≤ i ∧ i < 22 + n
        · rw [if_pos h4, if_pos (by omega)]
        · rw [if_neg h4, if_neg (c := 22 ≤ i ∧ i < 22 + (n + 1)) (by omega)]
theorem bkL_o {c : Nat → Int32} {l np nk n i : Nat} {wet : Int32} (h : i < 14 ∨ 30 ≤ i) (hn : n ≤ 8) : bkL c l np nk wet n i = c i := by
  unfold bkL
  rw [if_neg (by omega), if_neg (by omega)]
theorem bkL_14 {c : Nat → Int32} {l np nk n p : Nat} {wet : Int32} (hn : n ≤ 8) (hp : p < 8) : bkL c l np nk wet n (14 + p) = if p < n then c (14 + p) + gF c l p np nk wet else c (14 + p) := by
  unfold bkL
  by_cases h : p < n
  · rw [if_pos (by omega), if_pos h, Nat.add_sub_cancel_left]
  · rw [if_neg (by omega), if_neg (by omega), if_neg h]
theorem bkL_22 {c : Nat → Int32} {l np nk n p : Nat} {wet : Int32} (hn : n ≤ 8) (hp : p < 8) : bkL c l np nk wet n (22 + p) = if p < n then c (22 + p) + ow (hF c l p nk) else c (22 + p) := by
  unfold bkL
  by_cases h : p < n
  · rw [if_neg (by omega), if_pos (by omega), if_pos h, Nat.add_sub_cancel_left]
  · rw [if_neg (by omega), if_neg (by omega), if_neg h]
theorem Mo_bakes_loop {E : mEn} {d : Nat} {Q : mPost} {l np nk : Nat} {c : Nat → Int32} {wet a2 a3 : Int32} (hl : l < 8) (hnp : np ≤ 8) (c1 : c 0 = nI np) (c4 : c 3 = nI nk) (hn : nk ≤ 40) : ∀ (j p : Nat) (τ : mSt), p + j = np → (∀ x, x < 8 → τ.1 176 x = gF c l x np nk wet) → τ.1 171 = bkL c l np nk wet p →
    (∀ υ a4, qt S171 τ υ → υ.1 171 = bkL c l np nk wet np → WP E (d + 5) mMo_bakes 101 [.ref 166, .int (nI l), .int a2, .int a3, .int a4] [] υ Q) → WP E (d + 5) mMo_bakes 44 [.ref 166, .int (nI l), .int a2, .int a3, .int (nI p)] [] τ Q
  | 0, p, τ, e, hg, h1, hQ => by
    have e' : p = np := by omega
    subst e'
    rw [bMo_bakes_44, if_neg (by decide), h1, bkL_o (by omega) (by omega), c1, if_pos (Int32.le_refl _)]
    exact hQ τ _ qt_rf h1
  | j + 1, p, τ, e, hg, h1, hQ => by
    rw [bMo_bakes_44, if_neg (by decide), h1, bkL_o (by omega) (by omega), c1, if_neg (nI_ge (by omega) (by omega)), bMo_bakes_55, nI_add, nI_add, mOut_f (n := 14 + p) (by omega) (by omega), mOut_f (n := p) (by omega) (by omega), mOut_f (n := 22 + p) (by omega) (by omega), nI_clamp (n := 14 + p) (by omega), nI_clamp (n := p) (by omega), nI_clamp (n := 22 + p) (by omega), h1, hg p (by omega), bkL_14 (by omega) (by omega), if_neg (c := p < p) (by omega)]
    simp only [not_true_eq_false, not_false_eq_true, and_self, and_true, true_and, and_false, false_and, or_true, true_or, or_false, false_or, or_self, if_true, if_false, ite_self, eq_self, Bool.false_eq_true, Bool.true_eq_false]
    have A : (sI τ 171 (14 + p) (c (14 + p) + gF c l p np nk wet)).1 171 = upd (bkL c l np nk wet p) (14 + p) (c (14 + p) + gF c l p np nk wet) := by rw [sI_u, h1]
    have B : ∀ i, 34 ≤ i → upd (bkL c l np nk wet p) (14 + p) (c (14 + p) + gF c l p np nk wet) i = c i := fun i hi => by rw [upd_n (by omega), bkL_o (by omega) (by omega)]
    refine Eq.mpr (Mo_owesOf (σ := sI τ 171 (14 + p) (c (14 + p) + gF c l p np nk wet)) (nk := nk) hl (by omega) (by rw [A, upd_n (by omega), bkL_o (by omega) (by omega)]; exact c4) hn) ?_
    rw [tl_s, bMo_bakes_93, mOut_f (by omega) (by omega), nI_clamp (by omega), if_neg (by decide), nI_1, A, hF_c B, upd_n (by omega), bkL_22 (by omega) (by omega), if_neg (c := p < p) (by omega)]
    refine Mo_bakes_loop hl hnp c1 c4 hn j (p + 1) _ (by omega) (fun x hx => hg x hx) ?_ (fun υ a4 q => hQ υ a4 (qt_tr (qt_sI (qt_sI qt_rf (S171_i (by omega))) (S171_i (by omega))) q))
    rw [sI_u, A, bkL_s (by omega)]
theorem Mo_bakes {E : mEn} {d : Nat} {Q : mPost} {σ σ0 : mSt} {t l np no nl nk dy : Nat} {c : Nat → Int32} {w : Nat → Int64} {u2 u3 u4 : Value} (hT : TRel σ0 t c w np no nl nk dy) (hc : σ.1 171 = c) (hl : l < nl)
    (hQ1 : bkOk c l → ∀ τ, qt SMo σ τ → τ.1 166 0 = σ.1 166 0 → τ.1 171 = bkF c l np nk (b2i (wtP c (c (42 + l)))) → Q (some (.int (cF c l (b2i (wtP c (c (42 + l))))))) τ) (hQ0 : ¬ bkOk c l → Q (some (.int (-1))) σ) : WP E (d + 7) mMo_bakes 0 [.ref 166, .int (nI l), u2, u3, u4] [] σ Q := by
  obtain ⟨⟨b1, b2, b3, b4, b5⟩, ⟨t1, c1⟩, ⟨t2, c2⟩, ⟨t3, c3⟩, ⟨t4, c4⟩, ⟨t5, c5⟩, c6, gP, gO, gL, gB, gK, -⟩ := id hT
  have hl8 : l < 8 := by omega
  rw [bMo_bakes_0, Mo_isOpen hl8, tl_s, bMo_bakes_5, hc]
  by_cases h1 : ¬ c (42 + l) < 0 ∧ c (74 + l) < 0
  rotate_left
  · rw [b2i_f h1, if_pos rfl, bMo_bakes_26]
    exact hQ0 (fun g => h1 ⟨g.1, g.2.1⟩)
  rw [b2i_t h1, if_neg i10, bMo_bakes_8, nI_add, mOut_f (by omega) (by omega), mOut_f (by omega) (by omega), nI_clamp (by omega), hc, if_neg (by decide), if_neg (by decide)]
  by_cases h2 : c (50 + l) = c 4
  rotate_left
  · rw [if_neg h2, bMo_bakes_26]
    exact hQ0 (fun g => h2 g.2.2)
  have ok : bkOk c l := ⟨h1.1, h1.2, h2⟩
  obtain ⟨bk, hbk, ebk⟩ := (gL l hl).1.2
  have ebn : bkN c l = bk := by unfold bkN; rw [ebk, nI_clamp (by omega)]
  rw [if_pos h2, bMo_bakes_28, Mo_isWetOven hl8, tl_s, bMo_bakes_33, hc]
  refine Mo_unmet (np := np) (nk := nk) hl8 (by rw [hc]; exact c1) b1 (by rw [hc]; exact c4) b4 (fun υ q g => ?_)
  rw [hc] at g ⊢
  have hυ : υ.1 171 = c := by rw [← hc]; exact funext fun k => (q 171 k rfl).1
  rw [tl_s, bMo_bakes_40]
  refine Mo_bakes_loop (wet := b2i (wtP c (c (42 + l)))) hl8 b1 c1 c4 b4 np 0 υ (by omega) (fun x hx => g x hx) (by rw [hυ, bkL_0]) (fun φ a4 q2 h3 => ?_)
  rw [bMo_bakes_101, nI_add, mOut_f (n := 34 + l) (by omega) (by omega), nI_clamp (n := 34 + l) (by omega), h3, bkL_o (by omega) (by omega), ebk, nI_add, mOut_f (by omega) (by omega), nI_clamp (by omega), if_neg (by decide), if_neg (by decide), bMo_bakes_122, Mo_comes hl8, tl_s, bMo_bakes_136, nI_add, mOut_f (by omega) (by omega), nI_clamp (by omega), if_neg (by decide), if_neg (by decide), sI_e]
  have eM : (sI φ 171 (22 + bk) (bkL c l np nk (b2i (wtP c (c (42 + l)))) np (22 + bk) + dnF c l np nk (b2i (wtP c (c (42 + l)))))).1 171 = bkM c l np nk (b2i (wtP c (c (42 + l)))) := by
    rw [sI_u, h3, bkM, ebn]
  have eC : cF (bkM c l np nk (b2i (wtP c (c (42 + l))))) l (b2i (wtP c (c (42 + l)))) = cF c l (b2i (wtP c (c (42 + l)))) := by
    unfold cF bkM
    rw [ebn, upd_n (by omega), upd_n (by omega), bkL_o (by omega) (by omega), bkL_o (by omega) (by omega)]
  rw [eM, eC]
  refine hQ1 ok _ ?_ ?_ ?_
  · exact qt_sI (qt_sI (qt_tr (qt_mono q (fun o k h => SQ_Mo (SDl_SQ h) (by simp only [SDl, Bool.or_eq_true, Bool.and_eq_true, beq_iff_eq] at h; omega))) (qt_mono q2 (fun o k => S171_Mo))) (S171_Mo (S171_i (by omega)))) (S171_Mo (S171_i (by omega)))
  · show φ.1 166 0 = σ.1 166 0
    rw [(q2 166 0 rfl).1, (q 166 0 rfl).1]
  · rw [sI_u, eM]; rfl
theorem isH_bd {h : Nat} (hh : isH h) : 61 ≤ h ∧ h + 6 ≤ 89 := by rcases hh with rfl | rfl | rfl <;> omega
def S67 (t o k : Nat) : Bool := o == t + 16 || o == t + 17
theorem Tw_bring_loop {E : mEn} {d : Nat} {Q : mPost} {h t l np nk : Nat} {c : Nat → Int32} {wet : Int32} (hh : isH h) (ht : isT t) (hnp : np ≤ 8) : ∀ (j p : Nat) (τ : mSt), p + j = np → τ.1 t 13 = nI np → (∀ x, x < 8 → τ.1 (h + 4) x = gF c l x np nk wet) → (∀ x, x < 8 → τ.1 (h + 5) x = ow (hF c l x nk) + if c (34 + l) = nI x then dnF c l np nk wet else 0) →
    (∀ x, x < np → τ.1 (t + 16) x = (if x < p then c (14 + x) + gF c l x np nk wet else c (14 + x)) ∧ τ.1 (t + 17) x = (if x < p then c (22 + x) + (ow (hF c l x nk) + if c (34 + l) = nI x then dnF c l np nk wet else 0) else c (22 + x))) →
    (∀ υ a3, qt (S67 t) τ υ → (∀ x, x < np → υ.1 (t + 16) x = c (14 + x) + gF c l x np nk wet ∧ υ.1 (t + 17) x = c (22 + x) + (ow (hF c l x nk) + if c (34 + l) = nI x then dnF c l np nk wet else 0)) → WP E d mTw_bringOut 56 [.ref t, .int (nI l), .ref h, .int a3] [] υ Q) → WP E d mTw_bringOut 12 [.ref t, .int (nI l), .ref h, .int (nI p)] [] τ Q
  | 0, p, τ, e, h13, h4, h5, hp, hQ => by
    have e' : p = np := by omega
    subst e'
    rw [bTw_bringOut_12 hh ht, h13, if_pos (Int32.le_refl _)]
    refine hQ τ _ qt_rf (fun x hx => ?_)
    have := hp x hx
    rw [if_pos hx, if_pos hx] at this
    exact this
  | j + 1, p, τ, e, h13, h4, h5, hp, hQ => by
    have tb := isT_lt ht
    have hb := isH_bd hh
    have g := hp p (by omega)
    rw [if_neg (c := p < p) (by omega), if_neg (c := p < p) (by omega)] at g
    rw [bTw_bringOut_12 hh ht, h13, if_neg (nI_ge (by omega) (by omega)), bTw_bringOut_20 hh ht, mOut_f (by omega) (by omega), nI_clamp (by omega)]
    simp (disch := omega) only [sI_n, g.1, g.2, h4 p (by omega), h5 p (by omega), not_true_eq_false, not_false_eq_true, and_self, and_true, true_and, and_false, false_and, or_true, true_or, or_false, false_or, or_self, if_true, if_false, ite_self, eq_self, Bool.false_eq_true, Bool.true_eq_false]
    rw [bTw_bringOut_50 hh ht, nI_1]
    refine Tw_bring_loop hh ht hnp j (p + 1) _ (by omega) ?_ (fun x hx => ?_) (fun x hx => ?_) (fun x hx => ?_) (fun υ a3 q => hQ υ a3 (qt_tr (qt_sI (qt_sI qt_rf (by simp [S67])) (by simp [S67])) q))
    · simp (disch := omega) only [sI_n]; exact h13
    · simp (disch := omega) only [sI_n]; exact h4 x hx
    · simp (disch := omega) only [sI_n]; exact h5 x hx
    · by_cases e : x = p
      · subst e
        simp (disch := omega) only [sI_n, sI_e]
        rw [if_pos (c := x < x + 1) (by omega), if_pos (c := x < x + 1) (by omega)]
        exact ⟨rfl, rfl⟩
      · simp (disch := omega) only [sI_n]
        have := hp x hx
        by_cases z : x < p
        · rw [if_pos z, if_pos z] at this
          rw [if_pos (c := x < p + 1) (by omega), if_pos (c := x < p + 1) (by omega)]
          exact this
        · rw [if_neg z, if_neg z] at this
          rw [if_neg (c := x < p + 1) (by omega), if_neg (c := x < p + 1) (by omega)]
          exact this
theorem Tw_bringOut {E : mEn} {d : Nat} {Q : mPost} {σ : mSt} {h t l np no nl nk dy : Nat} {c : Nat → Int32} {w : Nat → Int64} {u : Value} (hh : isH h) (ht : isT t) (hT : TRel σ t c w np no nl nk dy) (hl : l < nl) (ok : bkOk c l) (g : ST σ h c l np nk (b2i (wtP c (c (42 + l)))))
    (hQ : ∀ τ, qt (STn t) σ τ → GB σ τ t → TRel τ t (bkF c l np nk (b2i (wtP c (c (42 + l))))) w np no nl nk dy → Q (some (.int (cF c l (b2i (wtP c (c (42 + l))))))) τ) : WP E (d + 3) mTw_bringOut 0 [.ref t, .int (nI l), .ref h, u] [] σ Q := by
  obtain ⟨⟨b1, b2, b3, b4, b5⟩, ⟨t1, c1⟩, ⟨t2, c2⟩, ⟨t3, c3⟩, ⟨t4, c4⟩, ⟨t5, c5⟩, c6, gP, gO, gL, gB, gK, -⟩ := id hT
  have tb := isT_lt ht
  have hb := isH_bd hh
  obtain ⟨bk, hbk, ebk⟩ := (gL l hl).1.2
  have ebn : bkN c l = bk := by unfold bkN; rw [ebk, nI_clamp (by omega)]
  rw [bTw_bringOut_0 hh ht, Tw_hasLoaf ht t3 b3, tl_s, bTw_bringOut_5 hh ht, b2i_t (mOut_f hl (by omega)), if_pos i10, bTw_bringOut_10 hh ht]
  refine Tw_bring_loop (c := c) (nk := nk) (wet := b2i (wtP c (c (42 + l)))) hh ht b1 np 0 σ (by omega) t1 g.1.2.2 g.2 (fun x hx => ?_) (fun υ a3 q hv => ?_)
  · rw [if_neg (by omega), if_neg (by omega)]
    exact ⟨(gP x hx).2.1, (gP x hx).2.2⟩
  have q' : ∀ j k, j ≠ 16 → j ≠ 17 → υ.1 (t + j) k = σ.1 (t + j) k := fun j k j1 j2 => (q _ _ (by simp only [S67, Bool.or_eq_false_iff, beq_eq_false_iff_ne]; omega)).1
  have q0 : ∀ k, υ.1 t k = σ.1 t k := fun k => q' 0 k (by omega) (by omega)
  have hL := gL l hl
  rcases hL.2.1.2 with hov | ⟨o, ho4, eo⟩
  · exact absurd (by rw [hov]; decide) ok.1
  have LR : LRel υ t c np no l := LRel_c hL (fun j j1 j2 => q' j _ (by omega) (by omega)) (by rw [q0]) (fun _ _ _ _ => rfl) (by omega)
  rw [bTw_bringOut_56 hh ht, bTw_rainsOn_0 ht, Tw_hasLoaf ht ((q0 15).trans t3) b3, tl_s, bTw_rainsOn_5 ht, b2i_t (mOut_f hl (by omega)), if_neg i10, bTw_rainsOn_8 ht, mOut_f (by omega) (by omega), nI_clamp (by omega), LR.2.1.1, eo, if_neg (by decide), Tw_isWet (c := c) ht ((q0 18).trans c6.1) (show o < 4 by omega), tl_s, bTw_rainsOn_18 ht]
  have FIN : WP E (d + 3) mTw_bringOut 68 [.ref t, .int (nI l), .ref h, .int a3] [.int (b2i (wtP c (c (42 + l)))), .int (nI l), .ref t, .int (nI l), .ref (t + 24)] υ Q := by
    rw [bTw_bringOut_68 hh ht, Tw_comesOf ht ((q0 15).trans t3) b3 hl LR, tl_s, bTw_bringOut_71 hh ht, mOut_f (by omega) (by omega), nI_clamp (by omega), if_neg (by decide), if_neg (by decide), sI_n (by omega), sI_e, sI_n (by omega)]
    obtain ⟨x, hx, ex⟩ := gB
    have x8 := pw8 b3 hx
    rw [q0 17, ex, bsO (by omega) x8]
    have tb' : ∀ i, i < 8 → (bitOf (nI (x ||| 2 ^ l)) i ↔ (bitOf (nI x) i ∨ i = l)) := fun i hi => by
      have y8 : x ||| 2 ^ l < 256 := Nat.or_lt_two_pow (n := 8) x8 (Nat.pow_lt_pow_right (by omega) (by omega))
      unfold bitOf
      rw [bs1 hi y8, bs1 hi x8, Nat.testBit_or, Nat.testBit_two_pow, Bool.or_eq_true, decide_eq_true_eq]
      constructor
      · rintro (h | h)
        · exact Or.inl h
        · exact Or.inr h.symm
      · rintro (h | h)
        · exact Or.inl h
        · exact Or.inr h.symm
    refine hQ _ ?_ ?_ ?_
    · refine qt_sI (qt_sI (qt_mono q (fun o k h => ?_)) (STn_in (by omega))) STn_in0
      simp only [S67, Bool.or_eq_true, beq_iff_eq] at h
      rcases h with rfl | rfl
      · exact STn_in (by omega)
      · exact STn_in (by omega)
    · exact GB_e (fun k => by simp (disch := omega) only [sI_n]; exact q' 9 k (by omega) (by omega))
    · have eo' : ∀ i, i < 14 ∨ 30 ≤ i → i ≠ 74 + l → bkF c l np nk (b2i (wtP c (c (42 + l)))) i = c i := fun i h1 h2 => by
        unfold bkF bkM
        rw [upd_n h2, ebn, upd_n (by omega), bkL_o h1 (by omega)]
      refine TRel_c hT b4 b5 ?_ ?_ ?_ ?_ ?_ ?_ ?_ ?_ ?_ ?_ ?_ ?_ ?_ ?_
      · simp (disch := omega) only [sI_n, q0, and_self]
      · exact ⟨eo' _ (by omega) (by omega), eo' _ (by omega) (by omega), eo' _ (by omega) (by omega)⟩
      · refine ⟨?_, (eo' _ (by omega) (by omega)).trans c4⟩
        simp (disch := omega) only [sI_n]; exact (q' 3 8 (by omega) (by omega)).trans t4
      · refine ⟨?_, (eo' _ (by omega) (by omega)).trans c5⟩
        simp (disch := omega) only [sI_n]; exact (q0 16).trans t5
      · rw [eo' 5 (by omega) (by omega)]
        refine ⟨?_, c6.2⟩
        simp (disch := omega) only [sI_n]; exact (q0 18).trans c6.1
      · intro y hy
        refine ⟨?_, ?_, ?_⟩
        · rw [eo' _ (by omega) (by omega)]
          simp (disch := omega) only [sI_n]
          exact (q' 15 y (by omega) (by omega)).trans (gP y hy).1
        · simp (disch := omega) only [sI_n, bkF, bkM, upd_n, ebn]
          rw [bkL_14 (by omega) (by omega), if_pos hy]
          exact (hv y hy).1
        · simp (disch := omega) only [sI_n, bkF, bkM, upd_n, ebn]
          rw [(hv y hy).2]
          by_cases z : y = bk
          · subst z
            rw [upd_e, bkL_22 (by omega) (by omega), if_pos hy, if_pos ebk, Int32.add_assoc]
          · rw [upd_n (by omega), bkL_22 (by omega) (by omega), if_pos hy, if_neg (fun g => z ((nI_eq (by omega) (by omega)).mp (ebk.symm.trans g)).symm), Int32.add_zero]
      · intro k hk
        refine ⟨?_, eo' _ (by omega) (by omega)⟩
        simp (disch := omega) only [sI_n]; exact q' 18 k (by omega) (by omega)
      · intro y hy
        by_cases z : y = l
        · subst z
          obtain ⟨y1, y2, y3, y4, y5, y6⟩ := LR
          unfold LRel
          rw [eo' (34 + y) (by omega) (by omega), eo' (42 + y) (by omega) (by omega), eo' (50 + y) (by omega) (by omega), eo' (58 + y) (by omega) (by omega), eo' (66 + y) (by omega) (by omega), show bkF c y np nk (b2i (wtP c (c (42 + y)))) (74 + y) = cF c y (b2i (wtP c (c (42 + y)))) from upd_e]
          simp (disch := omega) only [sI_n, sI_e]
          obtain ⟨m, hm, em⟩ := cF_n (wet := b2i (wtP c (c (42 + y)))) hT hy
          exact ⟨y1, y2, y3, y4, y5, Or.inr ⟨m, hm, em, em, (tb' y (by omega)).mpr (Or.inr rfl)⟩⟩
        · refine LRel_c (gL y hy) (fun j j1 j2 => ?_) ?_ (fun i i1 i2 i3 => eo' i (by omega) (by omega)) (by omega)
          · simp (disch := omega) only [sI_n]; exact q' j _ (by omega) (by omega)
          · rw [sI_e, tb' y (by omega), ex]
            exact ⟨fun g => g.elim id (fun g => absurd g z), Or.inl⟩
      · rw [sI_e]
        exact ⟨x ||| 2 ^ l, Nat.or_lt_two_pow hx (Nat.pow_lt_pow_right (by omega) hl), rfl⟩
      · intro k hk
        refine PRel_c (gK k hk) (fun j j1 j2 => ?_) (fun j hj => eo' _ (by omega) (by omega))
        simp (disch := omega) only [sI_n]; exact q' j _ (by omega) (by omega)
      · exact fun k _ => ⟨(q _ _ (by simp only [S67, Bool.or_eq_false_iff, beq_eq_false_iff_ne]; omega)).2, rfl⟩
      · intro k _ _
        simp (disch := omega) only [sI_n]; exact q' 12 k (by omega) (by omega)
      · intro k _
        simp (disch := omega) only [sI_n]; exact q' 13 k (by omega) (by omega)
      · exact fun i i1 i2 => eo' i (by omega) (by omega)
  by_cases z : wtP c (nI o)
  · rw [b2i_t z, if_neg i10, bTw_rainsOn_21 ht, bTw_rainsOn_26 ht (Or.inr rfl), tl_s]
    rw [eo, b2i_t z] at FIN
    exact FIN
  · rw [b2i_f z, if_pos rfl, bTw_rainsOn_25 ht, bTw_rainsOn_26 ht (Or.inl rfl), tl_s]
    rw [eo, b2i_f z] at FIN
    exact FIN
theorem P_bake {E : mEn} {d : Nat} {σ : mSt} {a : Int32} {u : Value} (hI : Inv σ) : pairI E (d + 9) mPb_bake mMo_bake [.ref 0, .int a] [.ref 166, .int a, u] σ := by
  obtain ⟨np, no, nl, nk, dy, hT⟩ := Inv_town hI
  obtain ⟨⟨b1, b2, b3, b4, b5⟩, ⟨t1, c1⟩, ⟨t2, c2⟩, ⟨t3, c3⟩, ⟨t4, c4⟩, ⟨t5, c5⟩, c6, gP, gO, gL, gB, gK, -⟩ := id hT
  have hq : ∀ τ : mSt, qt SQ σ τ → (sI (sI τ 166 1 0) 166 0 0).1 171 = σ.1 171 := fun τ q => funext fun k => (q 171 k rfl).1
  have mp := @mpq E σ np c1 b1
  have ml := @mlq E σ nl c3 b3
  have mk := @mkq E σ nk c4 b4
  by_cases ha : mOut a nl = false
  rotate_left
  · refine pairI_q hI (-1) (nI 2) (fun Q k => ?_) (fun τ q Q k => ?_)
    · simp only [bPb_bake_0, bPb_bake_8, bPb_bake_11, bPb_bake_16, bPb_bake_17, bPb_bake_25, bPb_bake_28, bPb_bake_34, bPb_bake_35, bPb_bake_52, bPb_bake_55, bPb_bake_68, bPb_bake_71, Tw_hasPerson T10 t1 b1, Tw_hasLoaf T10 t3 b3, Pr_has T10 t4 b4, tl_s, bPb_refuse_0, b2i_f ha, b2i_T, b2i_F, i10, not_true_eq_false, not_false_eq_true, and_self, and_true, true_and, and_false, false_and, or_true, true_or, or_false, false_or, or_self, if_true, if_false, ite_self, eq_self, Bool.false_eq_true, Bool.true_eq_false]
      exact k _ (by repeat' (first | exact qt_rf | assumption | refine qt_sI ?_ rfl | refine qt_sL ?_ rfl)) rfl
    · simp only [bMo_bake_0, bMo_bake_15, bMo_bake_18, bMo_bake_23, bMo_bake_24, bMo_bake_29, bMo_bake_34, bMo_bake_40, bMo_bake_43, bMo_bake_44, mp τ q, ml τ q, mk τ q, tl_s, bMo_refuse_0, b2i_f ha, b2i_T, b2i_F, i10, not_true_eq_false, not_false_eq_true, and_self, and_true, true_and, and_false, false_and, or_true, true_or, or_false, false_or, or_self, if_true, if_false, ite_self, eq_self, Bool.false_eq_true, Bool.true_eq_false]
      exact k _ (by repeat' (first | exact qt_rf | assumption | refine qt_sI ?_ rfl | refine qt_sL ?_ rfl)) rfl rfl
  have ha' := ha
  obtain ⟨l, hl, rfl⟩ := mOut_n ha
  have X0 : ∀ Q : mPost, WP E (d + 9) mPb_bake 0 [.ref 0, .int (nI l)] [] σ Q = WP E (d + 9) mPb_bake 25 [.ref 0, .int (nI l)] [.int (b2i (bkOk (σ.1 171) l))] σ Q := fun Q => by
    rw [bPb_bake_0, Tw_hasLoaf T10 t3 b3, tl_s, bPb_bake_8, b2i_t ha', if_pos i10, bPb_bake_17, Tw_canBake T10 hT hl, tl_s]
  by_cases ok : bkOk (σ.1 171) l
  rotate_left
  · refine pairI_q hI (-1) (nI 9) (fun Q k => ?_) (fun τ q Q k => ?_)
    · rw [X0, bPb_bake_25, b2i_f ok, ite_nn rfl, bPb_bake_28, bPb_refuse_0, tl_s, bPb_bake_34]
      exact k _ (by repeat' (first | exact qt_rf | assumption | refine qt_sI ?_ rfl | refine qt_sL ?_ rfl)) rfl
    · rw [bMo_bake_0, ml τ q, tl_s, bMo_bake_15, b2i_t ha', if_pos i10, bMo_bake_24]
      refine Mo_bakes hT (hq τ q) hl (fun g => absurd g ok) (fun _ => ?_)
      rw [tl_s, bMo_bake_29, if_neg (by decide), bMo_bake_34, bMo_refuse_0, tl_s, bMo_bake_40, bMo_bake_44]
      exact k _ (by repeat' (first | exact qt_rf | assumption | refine qt_sI ?_ rfl | refine qt_sL ?_ rfl)) rfl rfl
  obtain ⟨m, hm, em⟩ := cF_n (wet := b2i (wtP (σ.1 171) (σ.1 171 (42 + l)))) hT hl
  refine pairI_t hI (cF (σ.1 171) l (b2i (wtP (σ.1 171) (σ.1 171 (42 + l))))) (bkF (σ.1 171) l np nk (b2i (wtP (σ.1 171) (σ.1 171 (42 + l))))) (np := np) (no := no) (nl := nl) (nk := nk) (dy := dy) (fun Q k => ?_) (fun τ hτ Q k => ?_)
  · rw [X0, bPb_bake_25, b2i_t ok, if_pos i10, bPb_bake_35, Tw_rainsOn T10 hT hl ok.1, tl_s, bPb_bake_52]
    refine Sh_settle H61 T10 hT hl (fun υ q g => ?_)
    rw [tl_n, bPb_bake_55]
    refine Tw_bringOut H61 T10 (TRel_q q (fun j k hj _ _ => SH_T H61 T10 hj) hT) hl ok g (fun φ q2 g2 h2 => ?_)
    rw [tl_s, bPb_bake_68, bPb_answer_0, tl_s, bPb_bake_71]
    refine k _ (qt_tr (qt_mono q (fun o k h => ?_)) (qt_mono q2 (fun o k => STn_Cl))) (GB_tr (GB_e (fun k => (q 19 k rfl).1)) g2) h2
    simp only [SHs, SCl, Bool.or_eq_true, Bool.and_eq_true, decide_eq_true_eq] at h ⊢
    omega
  · rw [bMo_bake_0, mlt c3 b3 hτ, tl_s, bMo_bake_15, b2i_t ha', if_pos i10, bMo_bake_24]
    refine Mo_bakes hT (mo0 hτ) hl (fun _ υ q h0 h => ?_) (fun g => absurd ok g)
    rw [tl_s, bMo_bake_29, if_pos (by rw [em]; exact nI_pos' (by omega)), bMo_bake_43, bMo_bake_44]
    exact k _ (qt_tr qt_mo0 q) h h0
