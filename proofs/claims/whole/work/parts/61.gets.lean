/-- what p gets of loaf l -/
def gF (c : Nat → Int32) (l p np nk : Nat) (wet : Int32) : Int32 := dA (fun p => hF c l p nk) (LF c l np nk).reverse (fun _ => 0) (cF c l wet) p
def SGd (o k : Nat) : Bool := decide (61 ≤ o) && decide (o ≤ 67)
theorem SGd_SQ {o k : Nat} (h : SGd o k = true) : SQ o k = true := by
  simp only [SGd] at h
  simp only [SQ, h, Bool.or_true, Bool.true_or]
theorem SHg_SH {h o k : Nat} (g : SHg h o k = true) : SHs h o k = true := by
  simp only [SHg, beq_iff_eq] at g
  subst g
  exact SH_in (by omega)
theorem HS_q {S : Nat → Nat → Bool} {τ υ : mSt} {h l nk : Nat} {c : Nat → Int32} (q : qt S τ υ) (h1 : ∀ k, S (h + 1) k = false) (h2 : ∀ k, S (h + 2) k = false) (g : HS τ h c l nk) : HS υ h c l nk := fun p hp => by
  rw [(q _ _ (h1 p)).1, (q _ _ (h2 p)).1]; exact g p hp
theorem LN_q {S : Nat → Nat → Bool} {τ υ : mSt} {h : Nat} {R : List Nat} (q : qt S τ υ) (h1 : S h 6 = false) (h2 : ∀ k, S (h + 3) k = false) (g : LN τ h R) : LN υ h R := ⟨by rw [(q _ _ h1).1]; exact g.1, by rw [show υ.1 (h + 3) = τ.1 (h + 3) from funext fun k => (q _ _ (h2 k)).1]; exact g.2⟩
/-- weighed and dealt -/
def DG (υ : mSt) (h : Nat) (c : Nat → Int32) (l np nk : Nat) (wet : Int32) : Prop := HS υ h c l nk ∧ LN υ h (LF c l np nk) ∧ ∀ p, p < 8 → υ.1 (h + 4) p = gF c l p np nk wet
theorem Sh_weal {E : mEn} {d : Nat} {Q : mPost} {σ : mSt} {h t l np no nl nk dy : Nat} {c : Nat → Int32} {w : Nat → Int64} {b : Int32} {u1 u2 u3 : Value} (hh : isH h) (ht : isT t) (hT : TRel σ t c w np no nl nk dy) (hl : l < nl) {τ : mSt} (q : qt (SHs h) σ τ) (g : WG τ h c l nk) (hQ : ∀ υ, qt (SHs h) σ υ → DG υ h c l np nk b → Q none υ) : WP E (d + 2) mSh_deal 0 [.ref h, .int (cF c l b), u1, u2, u3] [] τ Q := by
  have g1 := g.2
  rw [LF_8 hT hl] at g1
  refine Sh_deal hh hT.1.1 g.1 g1 (fun υ q2 g2 => ?_)
  exact hQ υ (qt_tr q (qt_mono q2 (fun o k => SHg_SH))) ⟨HS_q q2 (fun k => by simp [SHg]) (fun k => by simp [SHg]) g.1, LN_q q2 (by simp [SHg]) (fun k => by simp [SHg]) g1, g2⟩
theorem Pb_wouldGet {E : mEn} {d : Nat} {Q : mPost} {σ : mSt} {l p np no nl nk dy : Nat} {c : Nat → Int32} {w : Nat → Int64} {b : Int32} (hT : TRel σ 10 c w np no nl nk dy) (hl : l < nl) (hp : p < np) (hQ : ∀ υ, qt (SHs 61) σ υ → DG υ 61 c l np nk b → Q (some (.int (gF c l p np nk b))) υ) : WP E (d + 5) mPb_wouldGet 0 [.ref 0, .int (nI p), .int (nI l), .int b] [] σ Q := by
  have hnp := hT.1.1
  rw [bPb_wouldGet_0]
  refine Sh_weigh H61 T10 hT hl (fun τ q g => ?_)
  have hT' : TRel τ 10 c w np no nl nk dy := TRel_q q (fun j k hj _ _ => SH_T H61 T10 hj) hT
  rw [tl_n, bPb_wouldGet_12, Tw_comesOf T10 hT'.2.2.2.1.1 hT'.1.2.2.1 hl (hT'.2.2.2.2.2.2.2.2.2.1 l hl), tl_s, bPb_wouldGet_25]
  refine Sh_weal H61 T10 hT hl q g (fun υ q2 g2 => ?_)
  rw [tl_n, bPb_wouldGet_28, mOut_f (by omega) (by omega), nI_clamp (by omega), if_neg (by decide), show υ.1 65 p = _ from g2.2.2 p (by omega)]
  exact hQ υ q2 g2
theorem Mo_getsOf {E : mEn} {d : Nat} {Q : mPost} {σ : mSt} {l p np nk : Nat} {b : Int32} (hl : l < 8) (hp : p < np) (hc0 : σ.1 171 0 = nI np) (hnp : np ≤ 8) (hk : σ.1 171 3 = nI nk) (hn : nk ≤ 40) (hQ : ∀ υ, qt SDl σ υ → Q (some (.int (gF (σ.1 171) l p np nk b))) υ) : WP E (d + 6) mMo_getsOf 0 [.ref 166, .int (nI p), .int (nI l), .int b] [] σ Q := by
  rw [bMo_getsOf_0]
  refine Mo_deals hl hc0 hnp hk hn (fun υ q g1 g2 => ?_)
  rw [tl_n, bMo_getsOf_6, mOut_f (by omega) (by omega), nI_clamp (by omega), if_neg (by decide), g2 p (by omega)]
  exact hQ υ q
theorem SDl_SQ {o k : Nat} (h : SDl o k = true) : SQ o k = true := by
  simp only [SDl, Bool.or_eq_true, Bool.and_eq_true, beq_iff_eq] at h
  rcases h with (rfl | rfl) | ⟨rfl, rfl⟩ <;> rfl
theorem P_gets {E : mEn} {d : Nat} {σ : mSt} {a b e : Int32} (hI : Inv σ) : pairI E (d + 7) mPb_gets mMo_gets [.ref 0, .int a, .int b, .int e] [.ref 166, .int a, .int b, .int e] σ := by
  obtain ⟨np, no, nl, nk, dy, hT⟩ := Inv_town hI
  obtain ⟨⟨b1, b2, b3, b4, b5⟩, ⟨t1, c1⟩, ⟨t2, c2⟩, ⟨t3, c3⟩, ⟨t4, c4⟩, ⟨t5, c5⟩, c6, gP, gO, gL, gB, gK, -⟩ := id hT
  have hq : ∀ τ : mSt, qt SQ σ τ → (sI (sI τ 166 1 0) 166 0 0).1 171 = σ.1 171 := fun τ q => funext fun k => (q 171 k rfl).1
  have mp := @mpq E σ np c1 b1
  have ml := @mlq E σ nl c3 b3
  have mk := @mkq E σ nk c4 b4
  by_cases ha : mOut a np = false
  rotate_left
  · refine pairI_q hI (-1) (nI 2) (fun Q k => ?_) (fun τ q Q k => ?_)
    · simp only [bPb_gets_0, bPb_gets_8, bPb_gets_11, bPb_gets_19, bPb_gets_22, bPb_gets_27, bPb_gets_28, bPb_gets_36, bPb_gets_39, bPb_gets_47, bPb_gets_50, bPb_gets_56, bPb_gets_57, bPb_gets_65, bPb_gets_68, Tw_hasPerson T10 t1 b1, Tw_hasLoaf T10 t3 b3, Pr_has T10 t4 b4, tl_s, bPb_refuse_0, b2i_f ha, b2i_T, b2i_F, i10, not_true_eq_false, not_false_eq_true, and_self, and_true, true_and, and_false, false_and, or_true, true_or, or_false, false_or, or_self, if_true, if_false, ite_self, eq_self, Bool.false_eq_true, Bool.true_eq_false]
      exact k _ (by repeat' (first | exact qt_rf | assumption | refine qt_sI ?_ rfl | refine qt_sL ?_ rfl)) rfl
    · simp only [bMo_gets_0, bMo_gets_15, bMo_gets_18, bMo_gets_23, bMo_gets_26, bMo_gets_31, bMo_gets_32, bMo_gets_37, bMo_gets_40, bMo_gets_45, bMo_gets_48, bMo_gets_54, bMo_gets_57, bMo_gets_64, mp τ q, ml τ q, mk τ q, tl_s, bMo_refuse_0, b2i_f ha, b2i_T, b2i_F, i10, not_true_eq_false, not_false_eq_true, and_self, and_true, true_and, and_false, false_and, or_true, true_or, or_false, false_or, or_self, if_true, if_false, ite_self, eq_self, Bool.false_eq_true, Bool.true_eq_false]
      exact k _ (by repeat' (first | exact qt_rf | assumption | refine qt_sI ?_ rfl | refine qt_sL ?_ rfl)) rfl rfl
  by_cases hb : mOut b nl = false
  rotate_left
  · refine pairI_q hI (-1) (nI 2) (fun Q k => ?_) (fun τ q Q k => ?_)
    · simp only [bPb_gets_0, bPb_gets_8, bPb_gets_11, bPb_gets_19, bPb_gets_22, bPb_gets_27, bPb_gets_28, bPb_gets_36, bPb_gets_39, bPb_gets_47, bPb_gets_50, bPb_gets_56, bPb_gets_57, bPb_gets_65, bPb_gets_68, Tw_hasPerson T10 t1 b1, Tw_hasLoaf T10 t3 b3, Pr_has T10 t4 b4, tl_s, bPb_refuse_0, b2i_t ha, b2i_f hb, b2i_T, b2i_F, i10, not_true_eq_false, not_false_eq_true, and_self, and_true, true_and, and_false, false_and, or_true, true_or, or_false, false_or, or_self, if_true, if_false, ite_self, eq_self, Bool.false_eq_true, Bool.true_eq_false]
      exact k _ (by repeat' (first | exact qt_rf | assumption | refine qt_sI ?_ rfl | refine qt_sL ?_ rfl)) rfl
    · simp only [bMo_gets_0, bMo_gets_15, bMo_gets_18, bMo_gets_23, bMo_gets_26, bMo_gets_31, bMo_gets_32, bMo_gets_37, bMo_gets_40, bMo_gets_45, bMo_gets_48, bMo_gets_54, bMo_gets_57, bMo_gets_64, mp τ q, ml τ q, mk τ q, tl_s, bMo_refuse_0, b2i_t ha, b2i_f hb, b2i_T, b2i_F, i10, not_true_eq_false, not_false_eq_true, and_self, and_true, true_and, and_false, false_and, or_true, true_or, or_false, false_or, or_self, if_true, if_false, ite_self, eq_self, Bool.false_eq_true, Bool.true_eq_false]
      exact k _ (by repeat' (first | exact qt_rf | assumption | refine qt_sI ?_ rfl | refine qt_sL ?_ rfl)) rfl rfl
  have ha' := ha
  have hb' := hb
  obtain ⟨p, hp, rfl⟩ := mOut_n ha
  obtain ⟨l, hl, rfl⟩ := mOut_n hb
  have iP := fun (d : Nat) (Q : mPost) => Tw_isPaper (E := E) (d := d) (σ := σ) (Q := Q) T10 t3 b3 hl
  have iB := fun (d : Nat) (Q : mPost) => Tw_isBaked (E := E) (d := d) (σ := σ) (Q := Q) T10 t3 b3 hl (gL l hl)
  have hl8 : l < 8 := by omega
  have jP := fun (d : Nat) (τ : mSt) (Q : mPost) => Mo_isPaper (E := E) (d := d) (σ := τ) (Q := Q) hl8
  have jB := fun (d : Nat) (τ : mSt) (Q : mPost) => Mo_isBaked (E := E) (d := d) (σ := τ) (Q := Q) hl8
  have e1 : σ.1 (10 + 20) l = σ.1 171 (42 + l) := (gL l hl).2.1.1
  by_cases h1 : σ.1 171 (42 + l) < 0
  · refine pairI_q hI (-1) (nI 9) (fun Q k => ?_) (fun τ q Q k => ?_)
    · simp only [bPb_gets_0, bPb_gets_8, bPb_gets_11, bPb_gets_19, bPb_gets_22, bPb_gets_27, bPb_gets_28, bPb_gets_36, bPb_gets_39, bPb_gets_47, bPb_gets_50, bPb_gets_56, bPb_gets_57, bPb_gets_65, bPb_gets_68, Tw_hasPerson T10 t1 b1, Tw_hasLoaf T10 t3 b3, Pr_has T10 t4 b4, tl_s, bPb_refuse_0, b2i_t ha', b2i_t hb', iP, jP, e1, h1, b2i_T, b2i_F, i10, not_true_eq_false, not_false_eq_true, and_self, and_true, true_and, and_false, false_and, or_true, true_or, or_false, false_or, or_self, if_true, if_false, ite_self, eq_self, Bool.false_eq_true, Bool.true_eq_false]
      exact k _ (by repeat' (first | exact qt_rf | assumption | refine qt_sI ?_ rfl | refine qt_sL ?_ rfl)) rfl
    · simp only [bMo_gets_0, bMo_gets_15, bMo_gets_18, bMo_gets_23, bMo_gets_26, bMo_gets_31, bMo_gets_32, bMo_gets_37, bMo_gets_40, bMo_gets_45, bMo_gets_48, bMo_gets_54, bMo_gets_57, bMo_gets_64, mp τ q, ml τ q, mk τ q, tl_s, bMo_refuse_0, b2i_t ha', b2i_t hb', iP, jP, e1, hq τ q, h1, b2i_T, b2i_F, i10, not_true_eq_false, not_false_eq_true, and_self, and_true, true_and, and_false, false_and, or_true, true_or, or_false, false_or, or_self, if_true, if_false, ite_self, eq_self, Bool.false_eq_true, Bool.true_eq_false]
      exact k _ (by repeat' (first | exact qt_rf | assumption | refine qt_sI ?_ rfl | refine qt_sL ?_ rfl)) rfl rfl
  by_cases h2 : σ.1 171 (74 + l) < 0
  rotate_left
  · refine pairI_q hI (-1) (nI 9) (fun Q k => ?_) (fun τ q Q k => ?_)
    · simp only [bPb_gets_0, bPb_gets_8, bPb_gets_11, bPb_gets_19, bPb_gets_22, bPb_gets_27, bPb_gets_28, bPb_gets_36, bPb_gets_39, bPb_gets_47, bPb_gets_50, bPb_gets_56, bPb_gets_57, bPb_gets_65, bPb_gets_68, Tw_hasPerson T10 t1 b1, Tw_hasLoaf T10 t3 b3, Pr_has T10 t4 b4, tl_s, bPb_refuse_0, b2i_t ha', b2i_t hb', iP, jP, iB, jB, e1, h1, h2, b2i_T, b2i_F, i10, not_true_eq_false, not_false_eq_true, and_self, and_true, true_and, and_false, false_and, or_true, true_or, or_false, false_or, or_self, if_true, if_false, ite_self, eq_self, Bool.false_eq_true, Bool.true_eq_false]
      exact k _ (by repeat' (first | exact qt_rf | assumption | refine qt_sI ?_ rfl | refine qt_sL ?_ rfl)) rfl
    · simp only [bMo_gets_0, bMo_gets_15, bMo_gets_18, bMo_gets_23, bMo_gets_26, bMo_gets_31, bMo_gets_32, bMo_gets_37, bMo_gets_40, bMo_gets_45, bMo_gets_48, bMo_gets_54, bMo_gets_57, bMo_gets_64, mp τ q, ml τ q, mk τ q, tl_s, bMo_refuse_0, b2i_t ha', b2i_t hb', iP, jP, iB, jB, e1, hq τ q, h1, h2, b2i_T, b2i_F, i10, not_true_eq_false, not_false_eq_true, and_self, and_true, true_and, and_false, false_and, or_true, true_or, or_false, false_or, or_self, if_true, if_false, ite_self, eq_self, Bool.false_eq_true, Bool.true_eq_false]
      exact k _ (by repeat' (first | exact qt_rf | assumption | refine qt_sI ?_ rfl | refine qt_sL ?_ rfl)) rfl rfl
  refine pairI_q hI (gF (σ.1 171) l p np nk e) 0 (fun Q k => ?_) (fun τ q Q k => ?_)
  · simp only [bPb_gets_0, bPb_gets_8, bPb_gets_11, bPb_gets_19, bPb_gets_28, bPb_gets_36, bPb_gets_39, bPb_gets_47, bPb_gets_57, Tw_hasPerson T10 t1 b1, Tw_hasLoaf T10 t3 b3, Pr_has T10 t4 b4, tl_s, iP, iB, e1, h1, h2, b2i_t ha', b2i_t hb', b2i_T, b2i_F, i10, not_true_eq_false, not_false_eq_true, and_self, and_true, true_and, and_false, false_and, or_true, true_or, or_false, false_or, or_self, if_true, if_false, ite_self, eq_self, Bool.false_eq_true, Bool.true_eq_false]
    refine Pb_wouldGet hT hl hp (fun υ q g => ?_)
    rw [tl_s, bPb_gets_65, bPb_answer_0, tl_s, bPb_gets_68]
    exact k _ (qt_sI (qt_mono q (fun o k => SH_SQ)) rfl) rfl
  · simp only [bMo_gets_0, bMo_gets_15, bMo_gets_18, bMo_gets_23, bMo_gets_32, bMo_gets_37, bMo_gets_40, bMo_gets_45, bMo_gets_57, mp τ q, ml τ q, mk τ q, tl_s, jP, jB, hq τ q, h1, h2, b2i_t ha', b2i_t hb', b2i_T, b2i_F, i10, not_true_eq_false, not_false_eq_true, and_self, and_true, true_and, and_false, false_and, or_true, true_or, or_false, false_or, or_self, if_true, if_false, ite_self, eq_self, Bool.false_eq_true, Bool.true_eq_false]
    refine Mo_getsOf (σ := sI (sI τ 166 1 0) 166 0 0) (show l < 8 by omega) hp (by rw [hq τ q]; exact c1) b1 (by rw [hq τ q]; exact c4) b4 (fun υ q2 => ?_)
    rw [tl_s, bMo_gets_64, hq τ q]
    exact k _ (qt_tr (τ := sI (sI τ 166 1 0) 166 0 0) (by repeat' (first | exact qt_rf | assumption | refine qt_sI ?_ rfl | refine qt_sL ?_ rfl)) (qt_mono q2 (fun o k => SDl_SQ))) (q2 166 0 rfl).1 (q2 0 10 rfl).1
