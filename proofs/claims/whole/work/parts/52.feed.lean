def STp (o k : Nat) : Bool := SQ o k || (o == 7 || o == 170 || (o == 6 && k == 2) || (o == 166 && k == 8))
theorem STp_T {t j k : Nat} (ht : 91 ≤ t ∧ t ≤ 141) (hj : j < 25) (h1 : j ≠ 10) (h2 : j ≠ 11) : STp (t + j) k = false := by
  simp only [STp, SQ, Bool.or_eq_false_iff, Bool.and_eq_false_iff, beq_eq_false_iff_ne, decide_eq_false_iff_not, ne_eq]
  omega
theorem Inv_Tp {σ τ : mSt} (h : Inv σ) (q : qt STp σ τ) (hs : τ.1 0 10 = τ.1 166 0) (htp : τ.1 7 = τ.1 170 ∧ τ.1 6 2 = τ.1 166 8 ∧ (∀ k, isBy (τ.1 170 k)) ∧ ∃ n, n ≤ 900 ∧ τ.1 166 8 = nI n) : Inv τ := by
  have e1 : ∀ o k, STp o k = false → τ.1 o k = σ.1 o k := fun o k g => (q o k g).1
  have e2 : ∀ o k, STp o k = false → τ.2 o k = σ.2 o k := fun o k g => (q o k g).2
  have f1 : ∀ o, (∀ k, STp o k = false) → τ.1 o = σ.1 o := fun o g => funext fun k => e1 o k (g k)
  have f2 : ∀ o, (∀ k, STp o k = false) → τ.2 o = σ.2 o := fun o g => funext fun k => e2 o k (g k)
  obtain ⟨h1, h2, h3, h4, h5, h6, h7, h8, h9, h10, h11⟩ := h
  refine ⟨hs, ?_, ?_, ?_, ?_, ?_, ?_, ?_, ?_, ?_, ?_⟩
  · rw [e2 0 11 rfl, e2 0 12 rfl, e2 166 2 rfl, e2 166 3 rfl]; exact h2
  · rw [e1 0 13 rfl, e1 0 14 rfl, e1 166 10 rfl, e1 166 11 rfl]; exact h3
  · exact htp
  · exact ⟨by rw [e1 177 0 rfl]; exact h5.1, by rw [e1 178 0 rfl]; exact h5.2.1, fun t ht k => by rw [e1 (t + 9) k (by rcases ht with rfl | rfl | rfl | rfl | rfl <;> rfl)]; exact h5.2.2 t ht k⟩
  · unfold RTr; rw [f2 2 (fun _ => rfl), f2 169 (fun _ => rfl), f1 3 (fun _ => rfl), f1 167 (fun _ => rfl), f1 4 (fun _ => rfl), f1 168 (fun _ => rfl)]; exact h6
  · obtain ⟨k, b1, b2, b3, b4⟩ := h7
    refine ⟨k, b1, by rw [e1 0 9 rfl]; exact b2, by rw [e1 166 23 rfl]; exact b3, fun i hi => ?_⟩
    have ec : (fun j => τ.1 171 (600 * (i + 1) + j)) = fun j => σ.1 171 (600 * (i + 1) + j) := funext fun j => e1 171 _ (by simp only [STp, SQ, Bool.or_eq_false_iff, Bool.and_eq_false_iff, beq_eq_false_iff_ne, decide_eq_false_iff_not, ne_eq]; omega)
    have ew : (fun j => τ.2 173 (20 * (i + 1) + j)) = fun j => σ.2 173 (20 * (i + 1) + j) := funext fun j => e2 173 _ (by simp only [STp, SQ, Bool.or_eq_false_iff, Bool.and_eq_false_iff, beq_eq_false_iff_ne, decide_eq_false_iff_not, ne_eq]; omega)
    rw [ec, ew]
    obtain ⟨np, no, nl, nk, dy, g⟩ := b4 i hi
    exact ⟨np, no, nl, nk, dy, TRel_q q (fun j k' hj x1 x2 => STp_T (by omega) hj x1 x2) g⟩
  · unfold RLv; rw [e1 0 15 rfl, e1 166 37 rfl, e1 73 4 rfl, e1 73 5 rfl, e1 73 6 rfl, e1 73 7 rfl, e1 73 8 rfl, f1 183 (fun _ => rfl)]; exact h8
  · unfold RRg; rw [e1 68 4 rfl, e1 166 33 rfl, f1 72 (fun _ => rfl), f1 180 (fun _ => rfl)]; exact h9
  · unfold RKw; rw [f2 8 (fun _ => rfl)]; exact h10
  · rw [f1 171 (fun _ => rfl), f2 173 (fun _ => rfl)]
    obtain ⟨np, no, nl, nk, dy, g⟩ := h11
    exact ⟨np, no, nl, nk, dy, TRel_q q (fun j k' hj x1 x2 => by simp only [STp, SQ, Bool.or_eq_false_iff, Bool.and_eq_false_iff, beq_eq_false_iff_ne, decide_eq_false_iff_not, ne_eq]; omega) g⟩
def by8 (x s : Int32) : Int32 := vp_nar .byte ((x >>> (s &&& 31)).toInt8.toInt32)
def ap4 (f : Nat → Int32) (n : Nat) (x : Int32) : Nat → Int32 := upd (upd (upd (upd f n (by8 x (nI 24))) (n + 1) (by8 x (nI 16))) (n + 2) (by8 x (nI 8))) (n + 3) (by8 x 0)
theorem by8_b {x s : Int32} : isBy (by8 x s) := by
  have e : by8 x s = (x >>> (s &&& 31)).toInt8.toInt32 := by
    show ((x >>> (s &&& 31)).toInt8.toInt32).toInt8.toInt32 = _
    rw [Int8.toInt8_toInt32]
  unfold isBy
  rw [e, Int8.toInt_toInt32]
  have h1 := Int8.le_toInt (x >>> (s &&& 31)).toInt8
  have h2 := Int8.toInt_lt (x >>> (s &&& 31)).toInt8
  omega
theorem upd_b {f : Nat → Int32} {n : Nat} {v : Int32} (h : ∀ k, isBy (f k)) (hv : isBy v) : ∀ k, isBy (upd f n v k) := fun k => by
  unfold upd
  by_cases e : k = n
  · rw [if_pos e]; exact hv
  · rw [if_neg e]; exact h k
theorem ap4_b {f : Nat → Int32} {n : Nat} {x : Int32} (h : ∀ k, isBy (f k)) : ∀ k, isBy (ap4 f n x k) := upd_b (upd_b (upd_b (upd_b h by8_b) by8_b) by8_b) by8_b
theorem To_room {E : mEn} {d : Nat} {σ : mSt} {Q : mPost} {n m : Nat} (h : σ.1 6 2 = nI n) (hn : n ≤ 900) (hm : m ≤ 20) : WP E d mTo_hasRoomFor 0 [.ref 6, .int (nI m)] [] σ Q = Q (some (.int (b2i (n + m ≤ 900)))) σ := by
  simp (disch := first | omega | assumption | exact b2i_or | exact T10 | exact Or.inl rfl | exact Or.inr rfl) only [bTo_hasRoomFor_0, bTo_hasRoomFor_4, bTo_hasRoomFor_16, bTo_hasRoomFor_20, bTo_hasRoomFor_21, h, nI_pos, pk_sub, b2i_Q, not_true_eq_false, not_false_eq_true, and_self, and_true, true_and, and_false, false_and, or_true, true_or, or_false, false_or, or_self, if_true, if_false, ite_self, eq_self, Bool.false_eq_true, Bool.true_eq_false]
  by_cases q : n + m ≤ 900
  · simp (disch := first | omega | assumption | exact b2i_or | exact T10 | exact Or.inl rfl | exact Or.inr rfl) only [q, nI_nlt, not_true_eq_false, not_false_eq_true, and_self, and_true, true_and, and_false, false_and, or_true, true_or, or_false, false_or, or_self, if_true, if_false, ite_self, eq_self, Bool.false_eq_true, Bool.true_eq_false]
  · simp (disch := first | omega | assumption | exact b2i_or | exact T10 | exact Or.inl rfl | exact Or.inr rfl) only [q, nI_lt, not_true_eq_false, not_false_eq_true, and_self, and_true, true_and, and_false, false_and, or_true, true_or, or_false, false_or, or_self, if_true, if_false, ite_self, eq_self, Bool.false_eq_true, Bool.true_eq_false]
theorem To_append {E : mEn} {d : Nat} {σ : mSt} {Q : mPost} {n : Nat} {x : Int32} (h : σ.1 6 2 = nI n) (hn : n + 4 ≤ 900) (hQ : ∀ τ, τ.1 7 = ap4 (σ.1 7) n x → τ.1 6 2 = nI (n + 4) → qt (fun o k => o == 7 || (o == 6 && k == 2)) σ τ → Q none τ) : WP E (d + 1) mTo_append 0 [.ref 6, .int x, uu] [] σ Q := by
  have s1 : nI 24 + (-8) = nI 16 := rfl
  have s2 : nI 16 + (-8) = nI 8 := rfl
  have s3 : nI 8 + (-8) = 0 := rfl
  have s4 : (0 : Int32) + (-8) = -8 := rfl
  have rd : ∀ (τ : mSt) (k : Nat) (v : Int32), (sI τ 7 k v).1 6 2 = τ.1 6 2 := fun _ _ _ => rfl
  have rd2 : ∀ (τ : mSt) (v : Int32), (sI τ 6 2 v).1 6 2 = v := fun _ _ => rfl
  rw [bTo_append_0, To_room h (by omega) (by omega), tl_s, bTo_append_5, b2i_t hn, if_neg i10, bTo_append_8, h, if_pos (nI_pos' (by omega)), bTo_append_16,
    bTo_append_19, if_neg (by decide), bTo_append_23, h, mOut_f (by omega) (by omega), nI_clamp (by omega), rd, h, nI_1, if_neg (by decide), bTo_append_46, s1,
    bTo_append_19, if_neg (by decide), bTo_append_23, rd2, mOut_f (by omega) (by omega), nI_clamp (by omega), rd, rd2, nI_1, if_neg (by decide), bTo_append_46, s2,
    bTo_append_19, if_neg (by decide), bTo_append_23, rd2, mOut_f (by omega) (by omega), nI_clamp (by omega), rd, rd2, nI_1, if_neg (by decide), bTo_append_46, s3,
    bTo_append_19, if_neg (by decide), bTo_append_23, rd2, mOut_f (by omega) (by omega), nI_clamp (by omega), rd, rd2, nI_1, if_neg (by decide), bTo_append_46, s4,
    bTo_append_19, if_pos (by decide), bTo_append_52]
  refine hQ _ ?_ rfl (by repeat' (first | exact qt_rf | assumption | refine qt_sI ?_ rfl | refine qt_sL ?_ rfl))
  funext y
  simp [sI, ap4, upd, by8]
theorem Mo_lay {E : mEn} {d : Nat} {σ : mSt} {Q : mPost} {n : Nat} {x : Int32} (h : σ.1 166 8 = nI n) (hn : n + 4 ≤ 900) (hQ : ∀ τ, τ.1 170 = ap4 (σ.1 170) n x → τ.1 166 8 = nI (n + 4) → qt (fun o k => o == 170 || (o == 166 && k == 8)) σ τ → Q none τ) : WP E (d + 1) mMo_lay 0 [.ref 166, .int x, uu] [] σ Q := by
  have s1 : nI 3 + (-1) = nI 2 := rfl
  have s2 : nI 2 + (-1) = 1 := rfl
  have s3 : (1 : Int32) + (-1) = 0 := rfl
  have s4 : (0 : Int32) + (-1) = -1 := rfl
  have m1 : nI 8 * nI 3 = nI 24 := rfl
  have m2 : nI 8 * nI 2 = nI 16 := rfl
  have m3 : nI 8 * 1 = nI 8 := rfl
  have m4 : nI 8 * 0 = 0 := rfl
  have rd : ∀ (τ : mSt) (k : Nat) (v : Int32), (sI τ 170 k v).1 166 8 = τ.1 166 8 := fun _ _ _ => rfl
  have rd2 : ∀ (τ : mSt) (v : Int32), (sI τ 166 8 v).1 166 8 = v := fun _ _ => rfl
  rw [bMo_lay_0,
    bMo_lay_2, if_neg (by decide), bMo_lay_6, h, mOut_f (by omega) (by omega), nI_clamp (by omega), rd, h, nI_1, if_neg (by decide), bMo_lay_32, s1, m1,
    bMo_lay_2, if_neg (by decide), bMo_lay_6, rd2, mOut_f (by omega) (by omega), nI_clamp (by omega), rd, rd2, nI_1, if_neg (by decide), bMo_lay_32, s2, m2,
    bMo_lay_2, if_neg (by decide), bMo_lay_6, rd2, mOut_f (by omega) (by omega), nI_clamp (by omega), rd, rd2, nI_1, if_neg (by decide), bMo_lay_32, s3, m3,
    bMo_lay_2, if_neg (by decide), bMo_lay_6, rd2, mOut_f (by omega) (by omega), nI_clamp (by omega), rd, rd2, nI_1, if_neg (by decide), bMo_lay_32, s4, m4,
    bMo_lay_2, if_pos (by decide), bMo_lay_38]
  refine hQ _ ?_ rfl (by repeat' (first | exact qt_rf | assumption | refine qt_sI ?_ rfl | refine qt_sL ?_ rfl))
  funext y
  simp [sI, ap4, upd, by8]
theorem P_feed {E : mEn} {d : Nat} {σ : mSt} {a b c e f : Int32} (hI : Inv σ) : pairI E (d + 3) mPb_feed mMo_feed [.ref 0, .int a, .int b, .int c, .int e, .int f, uu] [.ref 166, .int a, .int b, .int c, .int e, .int f] σ := by
  obtain ⟨-, -, -, ⟨e1, e2, e0, n, hn, e3⟩, -⟩ := id hI
  have e2' := e2.trans e3
  unfold pairI
  by_cases h : n + 20 ≤ 900
  rotate_left
  · rw [bPb_feed_0, To_room e2' hn (by omega), tl_s, bPb_feed_16, b2i_f h, if_neg (by decide), bPb_feed_19]
    refine ⟨_, rfl, ?_⟩
    rw [bMo_feed_0, show (sI σ 166 1 0).1 166 8 = nI n from e3, nI_add, if_neg (nI_ge (by omega) (by omega)), bMo_feed_18]
    exact ⟨rfl, Inv_q hI (by repeat' (first | exact qt_rf | assumption | refine qt_sI ?_ rfl | refine qt_sL ?_ rfl)) hI.1⟩
  rw [bPb_feed_0, To_room e2' hn (by omega), tl_s, bPb_feed_16, b2i_t h, if_pos i10, bPb_feed_21]
  refine To_append e2' (by omega) (fun τ1 x1 y1 z1 => ?_)
  rw [tl_n, bPb_feed_27]
  refine To_append y1 (by omega) (fun τ2 x2 y2 z2 => ?_)
  rw [tl_n, bPb_feed_33]
  refine To_append y2 (by omega) (fun τ3 x3 y3 z3 => ?_)
  rw [tl_n, bPb_feed_39]
  refine To_append y3 (by omega) (fun τ4 x4 y4 z4 => ?_)
  rw [tl_n, bPb_feed_46]
  refine To_append y4 (by omega) (fun τ5 x5 y5 z5 => ?_)
  rw [tl_n, bPb_feed_53]
  refine ⟨_, rfl, ?_⟩
  have Z := qt_tr (qt_tr (qt_tr (qt_tr z1 z2) z3) z4) z5
  have w0 : (sI τ5 166 1 0).1 166 8 = nI n := (Z 166 8 rfl).1.trans e3
  rw [bMo_feed_0, w0, nI_add, if_pos (nI_le (by omega) (by omega)), bMo_feed_20]
  refine Mo_lay w0 (by omega) (fun υ1 u1 v1 g1 => ?_)
  rw [tl_n, bMo_feed_25]
  refine Mo_lay v1 (by omega) (fun υ2 u2 v2 g2 => ?_)
  rw [tl_n, bMo_feed_30]
  refine Mo_lay v2 (by omega) (fun υ3 u3 v3 g3 => ?_)
  rw [tl_n, bMo_feed_35]
  refine Mo_lay v3 (by omega) (fun υ4 u4 v4 g4 => ?_)
  rw [tl_n, bMo_feed_41]
  refine Mo_lay v4 (by omega) (fun υ5 u5 v5 g5 => ?_)
  rw [tl_n, bMo_feed_47]
  have G := qt_tr (qt_tr (qt_tr (qt_tr g1 g2) g3) g4) g5
  refine ⟨by rw [v5, y5], Inv_Tp hI (qt_tr (qt_tr (qt_mono Z ?_) (qt_sI (S := STp) qt_rf rfl)) (qt_mono G ?_)) ?_ ⟨?_, ?_, ?_, n + 20, h, v5⟩⟩
  · intro o k hs; simp only [STp, Bool.or_eq_true] at hs ⊢; right; rcases hs with hs | hs
    · exact Or.inl (Or.inl (Or.inl hs))
    · exact Or.inl (Or.inr hs)
  · intro o k hs; simp only [STp, Bool.or_eq_true] at hs ⊢; right; rcases hs with hs | hs
    · exact Or.inl (Or.inl (Or.inr hs))
    · exact Or.inr hs
  · rw [(G 0 10 rfl).1, (G 166 0 rfl).1]
    show τ5.1 0 10 = τ5.1 166 0
    rw [(Z 0 10 rfl).1, (Z 166 0 rfl).1]; exact hI.1
  · have h7 : υ5.1 7 = τ5.1 7 := funext fun k => (G 7 k rfl).1
    have h170 : τ5.1 170 = σ.1 170 := funext fun k => (Z 170 k rfl).1
    rw [h7, x5, x4, x3, x2, x1, u5, u4, u3, u2, u1, show (sI τ5 166 1 0).1 170 = τ5.1 170 from rfl, h170, e1]
  · rw [(G 6 2 rfl).1, v5]; exact y5
  · rw [u5, u4, u3, u2, u1, show (sI τ5 166 1 0).1 170 = τ5.1 170 from rfl, show τ5.1 170 = σ.1 170 from funext fun k => (Z 170 k rfl).1]
    exact ap4_b (ap4_b (ap4_b (ap4_b (ap4_b e0))))
