theorem nI_m1 {n : Nat} (h : n < 2 ^ 31) : ¬ nI n = -1 := fun q => nI_pos h (by rw [q]; decide)
theorem cF_n {σ : mSt} {t l np no nl nk dy : Nat} {c : Nat → Int32} {w : Nat → Int64} {wet : Int32} (hT : TRel σ t c w np no nl nk dy) (hl : l < nl) : ∃ m, m ≤ 99 ∧ cF c l wet = nI m := by
  obtain ⟨n, n1, n2, e⟩ := (hT.2.2.2.2.2.2.2.2.2.1 l hl).2.2.2.1.2
  unfold cF
  split
  · exact ⟨0, by omega, rfl⟩
  · split
    · exact ⟨n, n2, e⟩
    · exact ⟨n / 2, by omega, by rw [e]; exact pk_div (by omega) (by omega) (by omega)⟩
theorem mn_b {n h : Int32} (h1 : 0 ≤ n.toInt) (h3 : 0 < h) : 0 ≤ (mn n h).toInt ∧ (mn n h).toInt ≤ n.toInt ∧ (mn n h).toInt ≤ h.toInt := by
  have h3' := Int32.lt_iff_toInt_lt.mp h3
  have z : (0 : Int32).toInt = 0 := rfl
  unfold mn
  split
  · rename_i g
    have := Int32.lt_iff_toInt_lt.mp g
    omega
  · rename_i g
    have := Int32.le_iff_toInt_le.mp (Int32.not_lt.mp g)
    omega
theorem dA_b {held : Nat → Int32} : ∀ (L : List Nat) (A : Nat → Int32) (n : Int32), 0 ≤ n.toInt → n.toInt ≤ 99 → (∀ x ∈ L, 0 < held x) → (∀ p, 0 ≤ (A p).toInt ∧ (A p).toInt ≤ 99) → ∀ p, 0 ≤ (dA held L A n p).toInt ∧ (dA held L A n p).toInt ≤ 99
  | [], A, n, h1, h2, hL, hA => hA
  | x :: L, A, n, h1, h2, hL, hA => by
    have g := mn_b h1 (hL x List.mem_cons_self)
    rw [dA]
    refine dA_b L _ _ ?_ ?_ (fun y hy => hL y (List.mem_cons_of_mem _ hy)) (fun p => ?_)
    · rw [ia_sub (by omega) (by omega)]; omega
    · rw [ia_sub (by omega) (by omega)]; omega
    · unfold upd
      split
      · omega
      · exact hA p
theorem dA_le {held : Nat → Int32} : ∀ (L : List Nat) (A : Nat → Int32) (n : Int32), 0 ≤ n.toInt → n.toInt ≤ 99 → (∀ x ∈ L, 0 < held x) → ∀ p, (A p).toInt ≤ (held p).toInt → (dA held L A n p).toInt ≤ (held p).toInt
  | [], A, n, h1, h2, hL, p, hA => hA
  | x :: L, A, n, h1, h2, hL, p, hA => by
    have g := mn_b h1 (hL x List.mem_cons_self)
    rw [dA]
    refine dA_le L _ _ ?_ ?_ (fun y hy => hL y (List.mem_cons_of_mem _ hy)) p ?_
    · rw [ia_sub (by omega) (by omega)]; omega
    · rw [ia_sub (by omega) (by omega)]; omega
    · unfold upd
      split
      · rename_i e; rw [e]; omega
      · exact hA
theorem gF_b {σ : mSt} {t l np no nl nk dy : Nat} {c : Nat → Int32} {w : Nat → Int64} {wet : Int32} (hT : TRel σ t c w np no nl nk dy) (hl : l < nl) (p : Nat) : 0 ≤ (gF c l p np nk wet).toInt ∧ (gF c l p np nk wet).toInt ≤ 99 := by
  obtain ⟨m, hm, e⟩ := cF_n (wet := wet) hT hl
  refine dA_b _ _ _ ?_ ?_ (fun x hx => (LF_mem (List.mem_reverse.mp hx)).2) (fun p => ?_) p
  · rw [e, nI_toInt (by omega)]; omega
  · rw [e, nI_toInt (by omega)]; omega
  · exact ⟨by decide, by decide⟩
theorem gF_le {σ : mSt} {t l np no nl nk dy : Nat} {c : Nat → Int32} {w : Nat → Int64} {wet : Int32} (hT : TRel σ t c w np no nl nk dy) (hl : l < nl) {p : Nat} (hp : 0 < hF c l p nk) : (gF c l p np nk wet).toInt ≤ (hF c l p nk).toInt := by
  obtain ⟨m, hm, e⟩ := cF_n (wet := wet) hT hl
  refine dA_le _ _ _ ?_ ?_ (fun x hx => (LF_mem (List.mem_reverse.mp hx)).2) p ?_
  · rw [e, nI_toInt (by omega)]; omega
  · rw [e, nI_toInt (by omega)]; omega
  · have := Int32.lt_iff_toInt_lt.mp hp
    have z : (0 : Int32).toInt = 0 := rfl
    omega
/-- whose the slice s is, along L, when the slices up to e are dealt -/
def oF (G : Nat → Int32) (s : Int32) : List Nat → Int32 → Int32
  | [], _ => -1
  | x :: L, e => if s < 0 then oF G s L (e + G x) else if e + G x ≤ s then oF G s L (e + G x) else nI x
theorem oF_neg {G : Nat → Int32} {s : Int32} (h : s < 0) : ∀ (L : List Nat) (e : Int32), oF G s L e = -1
  | [], _ => rfl
  | x :: L, e => by rw [oF, if_pos h]; exact oF_neg h L _
theorem Sh_owner_loop {E : mEn} {d : Nat} {Q : mPost} {h : Nat} {G : Nat → Int32} {s : Int32} (hh : isH h) {w : Nat} (hw : w ≤ 8) {τ : mSt} (h6 : τ.1 h 6 = nI w) (hG : ∀ p, p < 8 → τ.1 (h + 4) p = G p) : ∀ (L : List Nat) (k : Nat) (e : Int32), k + L.length = w → (∀ x ∈ L, x < 8) → qs (τ.1 (h + 3)) k L → WP E d mSh_ownerOf 4 [.ref h, .int s, .int e, .int (nI k)] [] τ Q = Q (some (.int (oF G s L e))) τ
  | [], k, e, hk, hL, hq => by
    have e' : k = w := by simpa using hk
    rw [bSh_ownerOf_4 hh, h6, if_pos (nI_le (by omega) (by omega)), bSh_ownerOf_48 hh, oF]
  | x :: L, k, e, hk, hL, hq => by
    have e' : k + L.length + 1 = w := by simpa [Nat.add_assoc] using hk
    have hx : x < 8 := hL x List.mem_cons_self
    have IH := Sh_owner_loop (E := E) (d := d) (Q := Q) (s := s) hh hw h6 hG L (k + 1) (e + G x) (by omega) (fun y hy => hL y (List.mem_cons_of_mem _ hy)) (qs_t hq)
    rw [bSh_ownerOf_4 hh, h6, if_neg (nI_ge (by omega) (by omega)), bSh_ownerOf_12 hh, mOut_f (by omega) (by omega), nI_clamp (by omega), qs_h hq, mOut_f hx (by omega), nI_clamp (by omega), hG x hx, if_neg (by decide), if_neg (by decide), oF]
    by_cases z : s < 0
    · rw [if_pos z, if_pos z, bSh_ownerOf_42 hh, nI_1, IH]
    · rw [if_neg z, if_neg z, bSh_ownerOf_30 hh]
      by_cases y : e + G x ≤ s
      · rw [if_pos y, if_pos y, bSh_ownerOf_42 hh, nI_1, IH]
      · rw [if_neg y, if_neg y, bSh_ownerOf_35 hh, mOut_f (by omega) (by omega), nI_clamp (by omega), qs_h hq, if_neg (by decide)]
theorem Mo_owner_loop {E : mEn} {d : Nat} {Q : mPost} {G : Nat → Int32} {s a1 a3 : Int32} (hs : ¬ s < 0) {w : Nat} (hw : w ≤ 8) {τ : mSt} (h6 : τ.1 166 28 = nI w) (hG : ∀ p, p < 8 → τ.1 176 p = G p) (hb : ∀ p, 0 ≤ (G p).toInt ∧ (G p).toInt ≤ 99) : ∀ (L : List Nat) (k : Nat) (e : Int32), k + L.length = w → (∀ x ∈ L, x < 8) → qs (τ.1 175) k L → 0 ≤ e.toInt → e.toInt ≤ 99 * k →
    WP E (d + 1) mMo_whose 59 [.ref 166, .int a1, .int s, .int a3, .int (s - e), .int (nI k)] [] τ Q = if oF G s L e = -1 then Q (some (.int (-1))) (sI τ 166 0 (nI 8)) else Q (some (.int (oF G s L e))) τ
  | [], k, e, hk, hL, hq, e1, e2 => by
    have e' : k = w := by simpa using hk
    rw [bMo_whose_59, h6, if_pos (nI_le (by omega) (by omega)), bMo_whose_120, bMo_refuse_0, tl_s, bMo_whose_126, oF, if_pos rfl]
  | x :: L, k, e, hk, hL, hq, e1, e2 => by
    have e' : k + L.length + 1 = w := by simpa [Nat.add_assoc] using hk
    have hx : x < 8 := hL x List.mem_cons_self
    have hbx := hb x
    have s0 : 0 ≤ s.toInt := by
      have := Int32.le_iff_toInt_le.mp (Int32.not_lt.mp hs)
      have z : (0 : Int32).toInt = 0 := rfl
      omega
    have s1 := Int32.toInt_lt s
    have t1 : (e + G x).toInt = e.toInt + (G x).toInt := ia_add (by omega) (by omega)
    have t2 : (s - e).toInt = s.toInt - e.toInt := ia_sub (by omega) (by omega)
    have IH := Mo_owner_loop (E := E) (d := d) (Q := Q) (a1 := a1) (a3 := a3) hs hw h6 hG hb L (k + 1) (e + G x) (by omega) (fun y hy => hL y (List.mem_cons_of_mem _ hy)) (qs_t hq) (by omega) (by omega)
    have cv : G x ≤ s - e ↔ e + G x ≤ s := by
      rw [Int32.le_iff_toInt_le, Int32.le_iff_toInt_le, t1, t2]; omega
    have t3 : s - e - G x = s - (e + G x) := by
      rw [Int32.sub_eq_add_neg, Int32.sub_eq_add_neg, Int32.sub_eq_add_neg, Int32.neg_add, Int32.add_assoc, Int32.sub_eq_add_neg]
    rw [bMo_whose_59, h6, if_neg (nI_ge (by omega) (by omega)), bMo_whose_68, if_neg hs, bMo_whose_72, mOut_f (by omega) (by omega), nI_clamp (by omega), qs_h hq, mOut_f hx (by omega), nI_clamp (by omega), hG x hx, if_neg (by decide), if_neg (by decide), oF, if_neg hs]
    by_cases y : e + G x ≤ s
    · rw [if_pos (cv.mpr y), if_pos y, bMo_whose_97, mOut_f (by omega) (by omega), nI_clamp (by omega), qs_h hq, mOut_f hx (by omega), nI_clamp (by omega), hG x hx, if_neg (by decide), if_neg (by decide), nI_1, t3, IH]
    · rw [if_neg (fun q => y (cv.mp q)), if_neg y, bMo_whose_89, mOut_f (by omega) (by omega), nI_clamp (by omega), qs_h hq, if_neg (by decide), if_neg (fun q => absurd q (nI_m1 (by omega)))]
theorem P_whose {E : mEn} {d : Nat} {σ : mSt} {a s b : Int32} {u1 u2 u3 : Value} (hI : Inv σ) : pairI E (d + 7) mPb_whose mMo_whose [.ref 0, .int a, .int s, .int b, u1] [.ref 166, .int a, .int s, .int b, u2, u3] σ := by
  obtain ⟨np, no, nl, nk, dy, hT⟩ := Inv_town hI
  obtain ⟨⟨b1, b2, b3, b4, b5⟩, ⟨t1, c1⟩, ⟨t2, c2⟩, ⟨t3, c3⟩, ⟨t4, c4⟩, ⟨t5, c5⟩, c6, gP, gO, gL, gB, gK, -⟩ := id hT
  have hq : ∀ τ : mSt, qt SQ σ τ → (sI (sI τ 166 1 0) 166 0 0).1 171 = σ.1 171 := fun τ q => funext fun k => (q 171 k rfl).1
  have mp := @mpq E σ np c1 b1
  have ml := @mlq E σ nl c3 b3
  have mk := @mkq E σ nk c4 b4
  by_cases ha : mOut a nl = false
  rotate_left
  · refine pairI_q hI (-1) (nI 2) (fun Q k => ?_) (fun τ q Q k => ?_)
    · simp only [bPb_whose_0, bPb_whose_8, bPb_whose_11, bPb_whose_16, bPb_whose_17, bPb_whose_25, bPb_whose_28, bPb_whose_36, bPb_whose_39, bPb_whose_45, bPb_whose_46, bPb_whose_58, bPb_whose_71, bPb_whose_74, bPb_whose_82, bPb_whose_90, bPb_whose_96, bPb_whose_99, bPb_whose_105, Tw_hasPerson T10 t1 b1, Tw_hasLoaf T10 t3 b3, Pr_has T10 t4 b4, tl_s, bPb_refuse_0, b2i_f ha, b2i_T, b2i_F, i10, not_true_eq_false, not_false_eq_true, and_self, and_true, true_and, and_false, false_and, or_true, true_or, or_false, false_or, or_self, if_true, if_false, ite_self, eq_self, Bool.false_eq_true, Bool.true_eq_false]
      exact k _ (by repeat' (first | exact qt_rf | assumption | refine qt_sI ?_ rfl | refine qt_sL ?_ rfl)) rfl
    · simp only [bMo_whose_0, bMo_whose_15, bMo_whose_18, bMo_whose_23, bMo_whose_24, bMo_whose_29, bMo_whose_32, bMo_whose_37, bMo_whose_40, bMo_whose_46, bMo_whose_47, bMo_whose_53, bMo_whose_68, bMo_whose_72, bMo_whose_89, bMo_whose_97, bMo_whose_120, bMo_whose_126, mp τ q, ml τ q, mk τ q, tl_s, bMo_refuse_0, b2i_f ha, b2i_T, b2i_F, i10, not_true_eq_false, not_false_eq_true, and_self, and_true, true_and, and_false, false_and, or_true, true_or, or_false, false_or, or_self, if_true, if_false, ite_self, eq_self, Bool.false_eq_true, Bool.true_eq_false]
      exact k _ (by repeat' (first | exact qt_rf | assumption | refine qt_sI ?_ rfl | refine qt_sL ?_ rfl)) rfl rfl
  have ha' := ha
  obtain ⟨l, hl, rfl⟩ := mOut_n ha
  have iP := fun (d : Nat) (Q : mPost) => Tw_isPaper (E := E) (d := d) (σ := σ) (Q := Q) T10 t3 b3 hl
  have iB := fun (d : Nat) (Q : mPost) => Tw_isBaked (E := E) (d := d) (σ := σ) (Q := Q) T10 t3 b3 hl (gL l hl)
  have hl8 : l < 8 := by omega
  have jP := fun (d : Nat) (τ : mSt) (Q : mPost) => Mo_isPaper (E := E) (d := d) (σ := τ) (Q := Q) hl8
  have jB := fun (d : Nat) (τ : mSt) (Q : mPost) => Mo_isBaked (E := E) (d := d) (σ := τ) (Q := Q) hl8
  have e1 : σ.1 (10 + 20) l = σ.1 171 (42 + l) := (gL l hl).2.1.1
  by_cases h1 : σ.1 171 (42 + l) < 0
  · refine pairI_q hI (-1) (nI 9) (fun Q k => ?_) (fun τ q Q k => ?_)
    · simp only [bPb_whose_0, bPb_whose_8, bPb_whose_11, bPb_whose_16, bPb_whose_17, bPb_whose_25, bPb_whose_28, bPb_whose_36, bPb_whose_39, bPb_whose_45, bPb_whose_46, bPb_whose_58, bPb_whose_71, bPb_whose_74, bPb_whose_82, bPb_whose_90, bPb_whose_96, bPb_whose_99, bPb_whose_105, Tw_hasPerson T10 t1 b1, Tw_hasLoaf T10 t3 b3, Pr_has T10 t4 b4, tl_s, bPb_refuse_0, b2i_t ha', iP, jP, e1, h1, b2i_T, b2i_F, i10, not_true_eq_false, not_false_eq_true, and_self, and_true, true_and, and_false, false_and, or_true, true_or, or_false, false_or, or_self, if_true, if_false, ite_self, eq_self, Bool.false_eq_true, Bool.true_eq_false]
      exact k _ (by repeat' (first | exact qt_rf | assumption | refine qt_sI ?_ rfl | refine qt_sL ?_ rfl)) rfl
    · simp only [bMo_whose_0, bMo_whose_15, bMo_whose_18, bMo_whose_23, bMo_whose_24, bMo_whose_29, bMo_whose_32, bMo_whose_37, bMo_whose_40, bMo_whose_46, bMo_whose_47, bMo_whose_53, bMo_whose_68, bMo_whose_72, bMo_whose_89, bMo_whose_97, bMo_whose_120, bMo_whose_126, mp τ q, ml τ q, mk τ q, tl_s, bMo_refuse_0, b2i_t ha', iP, jP, e1, hq τ q, h1, b2i_T, b2i_F, i10, not_true_eq_false, not_false_eq_true, and_self, and_true, true_and, and_false, false_and, or_true, true_or, or_false, false_or, or_self, if_true, if_false, ite_self, eq_self, Bool.false_eq_true, Bool.true_eq_false]
      exact k _ (by repeat' (first | exact qt_rf | assumption | refine qt_sI ?_ rfl | refine qt_sL ?_ rfl)) rfl rfl
  by_cases h2 : σ.1 171 (74 + l) < 0
  rotate_left
  · refine pairI_q hI (-1) (nI 9) (fun Q k => ?_) (fun τ q Q k => ?_)
    · simp only [bPb_whose_0, bPb_whose_8, bPb_whose_11, bPb_whose_16, bPb_whose_17, bPb_whose_25, bPb_whose_28, bPb_whose_36, bPb_whose_39, bPb_whose_45, bPb_whose_46, bPb_whose_58, bPb_whose_71, bPb_whose_74, bPb_whose_82, bPb_whose_90, bPb_whose_96, bPb_whose_99, bPb_whose_105, Tw_hasPerson T10 t1 b1, Tw_hasLoaf T10 t3 b3, Pr_has T10 t4 b4, tl_s, bPb_refuse_0, b2i_t ha', iP, jP, iB, jB, e1, h1, h2, b2i_T, b2i_F, i10, not_true_eq_false, not_false_eq_true, and_self, and_true, true_and, and_false, false_and, or_true, true_or, or_false, false_or, or_self, if_true, if_false, ite_self, eq_self, Bool.false_eq_true, Bool.true_eq_false]
      exact k _ (by repeat' (first | exact qt_rf | assumption | refine qt_sI ?_ rfl | refine qt_sL ?_ rfl)) rfl
    · simp only [bMo_whose_0, bMo_whose_15, bMo_whose_18, bMo_whose_23, bMo_whose_24, bMo_whose_29, bMo_whose_32, bMo_whose_37, bMo_whose_40, bMo_whose_46, bMo_whose_47, bMo_whose_53, bMo_whose_68, bMo_whose_72, bMo_whose_89, bMo_whose_97, bMo_whose_120, bMo_whose_126, mp τ q, ml τ q, mk τ q, tl_s, bMo_refuse_0, b2i_t ha', iP, jP, iB, jB, e1, hq τ q, h1, h2, b2i_T, b2i_F, i10, not_true_eq_false, not_false_eq_true, and_self, and_true, true_and, and_false, false_and, or_true, true_or, or_false, false_or, or_self, if_true, if_false, ite_self, eq_self, Bool.false_eq_true, Bool.true_eq_false]
      exact k _ (by repeat' (first | exact qt_rf | assumption | refine qt_sI ?_ rfl | refine qt_sL ?_ rfl)) rfl rfl
  have len := LF_len (c := σ.1 171) (l := l) (np := np) (nk := nk)
  have hLx : ∀ x ∈ (LF (σ.1 171) l np nk).reverse, x < 8 := fun x hx => by have := (LF_mem (List.mem_reverse.mp hx)).1; omega
  refine pairI_q hI (oF (fun p => gF (σ.1 171) l p np nk b) s (LF (σ.1 171) l np nk).reverse 0) (if oF (fun p => gF (σ.1 171) l p np nk b) s (LF (σ.1 171) l np nk).reverse 0 = -1 then nI 8 else 0) (fun Q k => ?_) (fun τ q Q k => ?_)
  · simp only [bPb_whose_0, bPb_whose_8, bPb_whose_17, bPb_whose_25, bPb_whose_28, bPb_whose_36, bPb_whose_46, Tw_hasPerson T10 t1 b1, Tw_hasLoaf T10 t3 b3, Pr_has T10 t4 b4, tl_s, iP, iB, e1, h1, h2, b2i_t ha', b2i_T, b2i_F, i10, not_true_eq_false, not_false_eq_true, and_self, and_true, true_and, and_false, false_and, or_true, true_or, or_false, false_or, or_self, if_true, if_false, ite_self, eq_self, Bool.false_eq_true, Bool.true_eq_false]
    refine Sh_weigh H61 T10 hT hl (fun τ q g => ?_)
    have hT' : TRel τ 10 (σ.1 171) (σ.2 173) np no nl nk dy := TRel_q q (fun j k hj _ _ => SH_T H61 T10 hj) hT
    rw [tl_n, bPb_whose_58, Tw_comesOf T10 hT'.2.2.2.1.1 b3 hl (hT'.2.2.2.2.2.2.2.2.2.1 l hl), tl_s, bPb_whose_71]
    refine Sh_weal H61 T10 hT hl q g (fun υ q2 g2 => ?_)
    rw [tl_n, bPb_whose_74, bSh_ownerOf_0 H61]
    refine Eq.mpr (Sh_owner_loop H61 (w := (LF (σ.1 171) l np nk).length) (by omega) g2.2.1.1 g2.2.2 (LF (σ.1 171) l np nk).reverse 0 0 (by simp) hLx (qs_r g2.2.1.2)) ?_
    rw [tl_s, bPb_whose_82]
    by_cases z : oF (fun p => gF (σ.1 171) l p np nk b) s (LF (σ.1 171) l np nk).reverse 0 = -1
    · rw [ite_nn z, bPb_whose_90, bPb_refuse_0, tl_s, bPb_whose_96, bPb_whose_105, ← z]
      exact k _ (qt_sI (qt_mono q2 (fun o k => SH_SQ)) rfl) (by rw [if_pos z]; rfl)
    · rw [if_pos z, bPb_whose_99, bPb_answer_0, tl_s, bPb_whose_105]
      exact k _ (qt_sI (qt_mono q2 (fun o k => SH_SQ)) rfl) (by rw [if_neg z]; rfl)
  · simp only [bMo_whose_0, bMo_whose_15, bMo_whose_24, bMo_whose_29, bMo_whose_32, bMo_whose_37, bMo_whose_47, mp τ q, ml τ q, mk τ q, tl_s, jP, jB, hq τ q, h1, h2, b2i_t ha', b2i_T, b2i_F, i10, not_true_eq_false, not_false_eq_true, and_self, and_true, true_and, and_false, false_and, or_true, true_or, or_false, false_or, or_self, if_true, if_false, ite_self, eq_self, Bool.false_eq_true, Bool.true_eq_false]
    refine Mo_deals (σ := sI (sI τ 166 1 0) 166 0 0) hl8 (by rw [hq τ q]; exact c1) b1 (by rw [hq τ q]; exact c4) b4 (fun υ q2 g1 g2 => ?_)
    rw [hq τ q] at g1 g2
    have Q2 : qt SQ τ υ := qt_tr (τ := sI (sI τ 166 1 0) 166 0 0) (by repeat' (first | exact qt_rf | assumption | refine qt_sI ?_ rfl | refine qt_sL ?_ rfl)) (qt_mono q2 (fun o k => SDl_SQ))
    rw [tl_n, bMo_whose_53]
    by_cases hs : s < 0
    · have hz := oF_neg (G := fun p => gF (σ.1 171) l p np nk b) hs (LF (σ.1 171) l np nk).reverse 0
      rw [hz, if_pos rfl] at k
      rw [bMo_whose_59]
      have e9 : ∀ υ : mSt, WP E (d + 7) mMo_whose 120 [.ref 166, .int (nI l), .int s, .int b, .int s, .int 0] [] υ Q = Q (some (.int (-1))) (sI υ 166 0 (nI 8)) := fun υ => by
        rw [bMo_whose_120, bMo_refuse_0, tl_s, bMo_whose_126]
      split
      · rw [e9]
        exact k _ (qt_sI Q2 rfl) rfl (q2 0 10 rfl).1
      · rw [bMo_whose_68, if_pos hs, e9]
        exact k _ (qt_sI Q2 rfl) rfl (q2 0 10 rfl).1
    · have e0 : s = s - 0 := by rw [Int32.sub_zero]
      have X := Mo_owner_loop (E := E) (d := d + 6) (Q := Q) (G := fun p => gF (σ.1 171) l p np nk b) (s := s) (a1 := nI l) (a3 := b) hs (w := (LF (σ.1 171) l np nk).length) (by omega) g1.1 g2 (fun p => gF_b hT hl p) (LF (σ.1 171) l np nk).reverse 0 0 (by simp) hLx (qs_r g1.2) (by decide) (by decide)
      rw [← e0] at X
      refine Eq.mpr X ?_
      by_cases z : oF (fun p => gF (σ.1 171) l p np nk b) s (LF (σ.1 171) l np nk).reverse 0 = -1
      · rw [if_pos z]
        rw [if_pos z, z] at k
        exact k _ (qt_sI Q2 rfl) rfl (q2 0 10 rfl).1
      · rw [if_neg z]
        rw [if_neg z] at k
        exact k _ Q2 (q2 166 0 rfl).1 (q2 0 10 rfl).1
theorem Pb_shame_loop {E : mEn} {d : Nat} {Q : mPost} {a1 a2 : Int32} {τ : mSt} {f : Nat → Int32} (h : ∀ p, p < 8 → τ.1 66 p = f p) : ∀ (j p : Nat) (s : Int32), p + j = 8 → s = sS f p → WP E (d + 1) mPb_shame 53 [.ref 0, .int a1, .int a2, .int s, .int (nI p)] [] τ Q = Q (some (.int (sS f 8))) (sI τ 0 10 0)
  | 0, p, s, e, hs => by
    have e' : p = 8 := by omega
    subst e'
    rw [bPb_shame_53, if_pos (Int32.le_refl _), bPb_shame_79, bPb_answer_0, tl_s, bPb_shame_84, hs]
  | j + 1, p, s, e, hs => by
    rw [bPb_shame_53, if_neg (nI_ge (by omega) (by omega)), bPb_shame_60, mOut_f (by omega) (by omega), nI_clamp (by omega), h p (by omega), if_neg (by decide), nI_1]
    exact Pb_shame_loop h j (p + 1) _ (by omega) (by rw [sS, hs])
theorem Mo_shame_loop {E : mEn} {d : Nat} {Q : mPost} {l np nk : Nat} {a2 : Int32} {τ : mSt} {c : Nat → Int32} {n0 : Int32} (hl : l < 8) (hc : τ.1 171 = c) (c0 : c 0 = nI np) (hnp : np ≤ 8) (c3 : c 3 = nI nk) (hnk : nk ≤ 40) : ∀ (j p : Nat) (s : Int32), p + j = np → s = n0 + sS (fun p => ow (hF c l p nk)) p → WP E (d + 5) mMo_shame 49 [.ref 166, .int (nI l), .int a2, .int s, .int (nI p)] [] τ Q = Q (some (.int (n0 + sS (fun p => ow (hF c l p nk)) np))) τ
  | 0, p, s, e, hs => by
    have e' : p = np := by omega
    subst e'
    rw [bMo_shame_49, if_neg (by decide), hc, c0, if_pos (Int32.le_refl _), bMo_shame_76, hs]
  | j + 1, p, s, e, hs => by
    rw [bMo_shame_49, if_neg (by decide), hc, c0, if_neg (nI_ge (by omega) (by omega)), bMo_shame_60, Mo_owesOf hl (show p < 8 by omega) (by rw [hc]; exact c3) hnk, tl_s, bMo_shame_68, nI_1, hc]
    exact Mo_shame_loop hl hc c0 hnp c3 hnk j (p + 1) _ (by omega) (by rw [sS, hs, Int32.add_assoc])
theorem P_shame {E : mEn} {d : Nat} {σ : mSt} {a b : Int32} {u1 u2 u3 u4 : Value} (hI : Inv σ) : pairI E (d + 7) mPb_shame mMo_shame [.ref 0, .int a, .int b, u1, u2] [.ref 166, .int a, .int b, u3, u4] σ := by
  obtain ⟨np, no, nl, nk, dy, hT⟩ := Inv_town hI
  obtain ⟨⟨b1, b2, b3, b4, b5⟩, ⟨t1, c1⟩, ⟨t2, c2⟩, ⟨t3, c3⟩, ⟨t4, c4⟩, ⟨t5, c5⟩, c6, gP, gO, gL, gB, gK, -⟩ := id hT
  have hq : ∀ τ : mSt, qt SQ σ τ → (sI (sI τ 166 1 0) 166 0 0).1 171 = σ.1 171 := fun τ q => funext fun k => (q 171 k rfl).1
  have mp := @mpq E σ np c1 b1
  have ml := @mlq E σ nl c3 b3
  have mk := @mkq E σ nk c4 b4
  by_cases ha : mOut a nl = false
  rotate_left
  · refine pairI_q hI (-1) (nI 2) (fun Q k => ?_) (fun τ q Q k => ?_)
    · simp only [bPb_shame_0, bPb_shame_8, bPb_shame_11, bPb_shame_16, bPb_shame_17, bPb_shame_25, bPb_shame_28, bPb_shame_34, bPb_shame_35, bPb_shame_48, bPb_shame_60, bPb_shame_79, bPb_shame_84, Tw_hasPerson T10 t1 b1, Tw_hasLoaf T10 t3 b3, Pr_has T10 t4 b4, tl_s, bPb_refuse_0, b2i_f ha, b2i_T, b2i_F, i10, not_true_eq_false, not_false_eq_true, and_self, and_true, true_and, and_false, false_and, or_true, true_or, or_false, false_or, or_self, if_true, if_false, ite_self, eq_self, Bool.false_eq_true, Bool.true_eq_false]
      exact k _ (by repeat' (first | exact qt_rf | assumption | refine qt_sI ?_ rfl | refine qt_sL ?_ rfl)) rfl
    · simp only [bMo_shame_0, bMo_shame_15, bMo_shame_18, bMo_shame_23, bMo_shame_24, bMo_shame_29, bMo_shame_32, bMo_shame_38, bMo_shame_39, bMo_shame_45, bMo_shame_60, bMo_shame_68, bMo_shame_76, mp τ q, ml τ q, mk τ q, tl_s, bMo_refuse_0, b2i_f ha, b2i_T, b2i_F, i10, not_true_eq_false, not_false_eq_true, and_self, and_true, true_and, and_false, false_and, or_true, true_or, or_false, false_or, or_self, if_true, if_false, ite_self, eq_self, Bool.false_eq_true, Bool.true_eq_false]
      exact k _ (by repeat' (first | exact qt_rf | assumption | refine qt_sI ?_ rfl | refine qt_sL ?_ rfl)) rfl rfl
  have ha' := ha
  obtain ⟨l, hl, rfl⟩ := mOut_n ha
  have iP := fun (d : Nat) (Q : mPost) => Tw_isPaper (E := E) (d := d) (σ := σ) (Q := Q) T10 t3 b3 hl
  have iB := fun (d : Nat) (Q : mPost) => Tw_isBaked (E := E) (d := d) (σ := σ) (Q := Q) T10 t3 b3 hl (gL l hl)
  have hl8 : l < 8 := by omega
  have jP := fun (d : Nat) (τ : mSt) (Q : mPost) => Mo_isPaper (E := E) (d := d) (σ := τ) (Q := Q) hl8
  have jB := fun (d : Nat) (τ : mSt) (Q : mPost) => Mo_isBaked (E := E) (d := d) (σ := τ) (Q := Q) hl8
  have e1 : σ.1 (10 + 20) l = σ.1 171 (42 + l) := (gL l hl).2.1.1
  by_cases h2 : σ.1 171 (74 + l) < 0
  rotate_left
  · refine pairI_q hI (-1) (nI 9) (fun Q k => ?_) (fun τ q Q k => ?_)
    · simp only [bPb_shame_0, bPb_shame_8, bPb_shame_11, bPb_shame_16, bPb_shame_17, bPb_shame_25, bPb_shame_28, bPb_shame_34, bPb_shame_35, bPb_shame_48, bPb_shame_60, bPb_shame_79, bPb_shame_84, Tw_hasPerson T10 t1 b1, Tw_hasLoaf T10 t3 b3, Pr_has T10 t4 b4, tl_s, bPb_refuse_0, b2i_t ha', iB, jB, h2, b2i_T, b2i_F, i10, not_true_eq_false, not_false_eq_true, and_self, and_true, true_and, and_false, false_and, or_true, true_or, or_false, false_or, or_self, if_true, if_false, ite_self, eq_self, Bool.false_eq_true, Bool.true_eq_false]
      exact k _ (by repeat' (first | exact qt_rf | assumption | refine qt_sI ?_ rfl | refine qt_sL ?_ rfl)) rfl
    · simp only [bMo_shame_0, bMo_shame_15, bMo_shame_18, bMo_shame_23, bMo_shame_24, bMo_shame_29, bMo_shame_32, bMo_shame_38, bMo_shame_39, bMo_shame_45, bMo_shame_60, bMo_shame_68, bMo_shame_76, mp τ q, ml τ q, mk τ q, tl_s, bMo_refuse_0, b2i_t ha', iB, jB, hq τ q, h2, b2i_T, b2i_F, i10, not_true_eq_false, not_false_eq_true, and_self, and_true, true_and, and_false, false_and, or_true, true_or, or_false, false_or, or_self, if_true, if_false, ite_self, eq_self, Bool.false_eq_true, Bool.true_eq_false]
      exact k _ (by repeat' (first | exact qt_rf | assumption | refine qt_sI ?_ rfl | refine qt_sL ?_ rfl)) rfl rfl
  refine pairI_q hI (dnF (σ.1 171) l np nk b + sS (fun p => ow (hF (σ.1 171) l p nk)) np) 0 (fun Q k => ?_) (fun τ q Q k => ?_)
  · simp only [bPb_shame_0, bPb_shame_8, bPb_shame_17, bPb_shame_25, bPb_shame_35, Tw_hasPerson T10 t1 b1, Tw_hasLoaf T10 t3 b3, Pr_has T10 t4 b4, tl_s, iB, h2, b2i_t ha', b2i_T, b2i_F, i10, not_true_eq_false, not_false_eq_true, and_self, and_true, true_and, and_false, false_and, or_true, true_or, or_false, false_or, or_self, if_true, if_false, ite_self, eq_self, Bool.false_eq_true, Bool.true_eq_false]
    refine Sh_settle H61 T10 hT hl (fun τ q g => ?_)
    rw [tl_n, bPb_shame_48]
    refine Eq.mpr (Pb_shame_loop (f := fun p => ow (hF (σ.1 171) l p nk) + if σ.1 171 (34 + l) = nI p then dnF (σ.1 171) l np nk b else 0) g.2 8 0 0 (by omega) rfl) ?_
    obtain ⟨bk, hbk, ebk⟩ := (gL l hl).1.2
    have X : sS (fun p => ow (hF (σ.1 171) l p nk) + if σ.1 171 (34 + l) = nI p then dnF (σ.1 171) l np nk b else 0) 8 = dnF (σ.1 171) l np nk b + sS (fun p => ow (hF (σ.1 171) l p nk)) np := by
      rw [sS_c (g := fun p => ow (hF (σ.1 171) l p nk) + if p = bk then dnF (σ.1 171) l np nk b else 0) 8 (fun x hx => by
        rw [ebk]
        by_cases z : x = bk
        · rw [if_pos z, if_pos (by rw [z])]
        · rw [if_neg z, if_neg (by rw [nI_eq (by omega) (by omega)]; omega)]), sS_at, if_pos (by omega), Int32.add_comm]
      have e8 := sS_z (f := fun p => ow (hF (σ.1 171) l p nk)) (m := np) (8 - np) (fun x h1 h2 => by rw [TRel_hz hT hl h1 (by omega)]; rfl)
      rw [show np + (8 - np) = 8 by omega] at e8
      rw [e8]
    rw [X]
    exact k _ (qt_sI (qt_mono q (fun o k => SH_SQ)) rfl) rfl
  · simp only [bMo_shame_0, bMo_shame_15, bMo_shame_24, bMo_shame_29, bMo_shame_39, mp τ q, ml τ q, mk τ q, tl_s, jB, hq τ q, h2, b2i_t ha', b2i_T, b2i_F, i10, not_true_eq_false, not_false_eq_true, and_self, and_true, true_and, and_false, false_and, or_true, true_or, or_false, false_or, or_self, if_true, if_false, ite_self, eq_self, Bool.false_eq_true, Bool.true_eq_false]
    refine Mo_unmet (σ := sI (sI τ 166 1 0) 166 0 0) hl8 (by rw [hq τ q]; exact c1) b1 (by rw [hq τ q]; exact c4) b4 (fun υ q2 g2 => ?_)
    have hc : υ.1 171 = σ.1 171 := (funext fun k => (q2 171 k rfl).1).trans (hq τ q)
    rw [tl_s, bMo_shame_45, hq τ q]
    refine Eq.mpr (Mo_shame_loop (n0 := dnF (σ.1 171) l np nk b) hl8 hc c1 b1 c4 b4 np 0 _ (by omega) (Int32.add_zero _).symm) ?_
    exact k _ (qt_tr (τ := sI (sI τ 166 1 0) 166 0 0) (by repeat' (first | exact qt_rf | assumption | refine qt_sI ?_ rfl | refine qt_sL ?_ rfl)) (qt_mono q2 (fun o k => SDl_SQ))) (q2 166 0 rfl).1 (q2 0 10 rfl).1
