theorem pairL_q {E : mEn} {d : Nat} {X Y : mM} {ax ay : List Value} {σ : mSt} (hI : Inv σ) (v : Int64) (s : Int32)
    (hx : ∀ Q : mPost, (∀ τ, qt SQ σ τ → τ.1 0 10 = s → Q (some (.long v)) τ) → WP E d X 0 ax [] σ Q)
    (hy : ∀ τ, qt SQ σ τ → ∀ Q : mPost, (∀ υ, qt SQ τ υ → υ.1 166 0 = s → υ.1 0 10 = τ.1 0 10 → Q (some (.long v)) υ) → WP E d Y 0 ay [] τ Q) : pairL E d X Y ax ay σ := by
  refine hx _ (fun τ q1 q2 => ⟨v, rfl, hy τ q1 _ (fun υ p1 p2 p3 => ⟨rfl, Inv_q hI (qt_tr q1 p1) (by rw [p3, q2, p2])⟩)⟩)
def cutF (s : Int32) (v : Int64) : Int64 := if s = 0 then v.toInt32.toInt8.toInt32.toInt64 else if s = 1 then v.toInt32.toInt16.toInt32.toInt64 else if s = nI 2 then v.toInt32.toInt64 else v
theorem Mo_cut {E : mEn} {d : Nat} {σ : mSt} {Q : mPost} {s : Int32} {v : Int64} : WP E d mMo_cut 0 [.int s, .long v, uu] [] σ Q = Q (some (.long (cutF s v))) σ := by
  simp only [bMo_cut_0, bMo_cut_4, bMo_cut_11, bMo_cut_16, bMo_cut_23, bMo_cut_28, bMo_cut_34, bMo_cut_35, cutF]
  by_cases h0 : s = 0
  · simp only [h0, not_true_eq_false, not_false_eq_true, and_self, and_true, true_and, and_false, false_and, or_true, true_or, or_false, false_or, or_self, if_true, if_false, ite_self, eq_self, Bool.false_eq_true, Bool.true_eq_false]
  · by_cases h1 : s = 1
    · simp only [h0, h1, i10, not_true_eq_false, not_false_eq_true, and_self, and_true, true_and, and_false, false_and, or_true, true_or, or_false, false_or, or_self, if_true, if_false, ite_self, eq_self, Bool.false_eq_true, Bool.true_eq_false]
    · by_cases h2 : s = nI 2
      · simp only [h0, h1, h2, not_true_eq_false, not_false_eq_true, and_self, and_true, true_and, and_false, false_and, or_true, true_or, or_false, false_or, or_self, if_true, if_false, ite_self, eq_self, Bool.false_eq_true, Bool.true_eq_false, show ¬ nI 2 = 0 by decide, show ¬ nI 2 = 1 by decide]
      · simp only [h0, h1, h2, not_true_eq_false, not_false_eq_true, and_self, and_true, true_and, and_false, false_and, or_true, true_or, or_false, false_or, or_self, if_true, if_false, ite_self, eq_self, Bool.false_eq_true, Bool.true_eq_false]
theorem Tr_cutTo {E : mEn} {d : Nat} {σ : mSt} {Q : mPost} {s : Int32} {v : Int64} : WP E d mTr_cutTo 0 [.int s, .long v, uu] [] σ Q = Q (some (.long (cutF s v))) σ := by
  rcases sw_cs s 0 2 with ⟨k, -, hk, rfl⟩ | hne
  · match k, hk with
    | 0, _ => simp only [bTr_cutTo_0, bTr_cutTo_0_s0, bTr_cutTo_0_s1, bTr_cutTo_0_s2, bTr_cutTo_28, bTr_cutTo_33, bTr_cutTo_38, bTr_cutTo_42]; rfl
    | 1, _ => simp only [bTr_cutTo_0, bTr_cutTo_0_s0, bTr_cutTo_0_s1, bTr_cutTo_0_s2, bTr_cutTo_28, bTr_cutTo_33, bTr_cutTo_38, bTr_cutTo_42]; rfl
    | 2, _ => simp only [bTr_cutTo_0, bTr_cutTo_0_s0, bTr_cutTo_0_s1, bTr_cutTo_0_s2, bTr_cutTo_28, bTr_cutTo_33, bTr_cutTo_38, bTr_cutTo_42]; rfl
  · rw [bTr_cutTo_0, bTr_cutTo_0_sD hne, bTr_cutTo_42]
    have h0 : ¬ s = 0 := hne 0 (by omega) (by omega)
    have h1 : ¬ s = 1 := hne 1 (by omega) (by omega)
    have h2 : ¬ s = nI 2 := hne 2 (by omega) (by omega)
    simp only [cutF, h0, h1, h2, not_true_eq_false, not_false_eq_true, and_self, and_true, true_and, and_false, false_and, or_true, true_or, or_false, false_or, or_self, if_true, if_false, ite_self, eq_self, Bool.false_eq_true, Bool.true_eq_false]
theorem P_read {E : mEn} {d : Nat} {σ : mSt} {a b : Int32} (hI : Inv σ) : pairL E (d + 6) mPb_read mMo_read [.ref 0, .int a, .int b, uu] [.ref 166, .int a, .int b] σ := by
  have hR : RTr σ := hI.2.2.2.2.2.1
  have h1 : ∀ (s : Int32) (τ : mSt), ((sI τ 166 0 s).1 166 0 ≤ 0) = (s ≤ 0) := fun _ _ => rfl
  by_cases ha : mOut a 4 = false
  rotate_left
  · refine pairL_q hI (-1) 1 (fun Q k => ?_) (fun τ q Q k => ?_)
    · simp (disch := first | omega | assumption | exact b2i_or | exact T10 | exact Or.inl rfl | exact Or.inr rfl) only [bPb_read_0, bPb_read_9, bPb_read_14, bPb_read_19, bPb_read_21, bPb_read_35, Tr_whyA ha, bPb_refuse_0, i10, tl_s, not_true_eq_false, not_false_eq_true, and_self, and_true, true_and, and_false, false_and, or_true, true_or, or_false, false_or, or_self, if_true, if_false, ite_self, eq_self, Bool.false_eq_true, Bool.true_eq_false]
      exact k _ (by repeat' (first | exact qt_rf | assumption | refine qt_sI ?_ rfl | refine qt_sL ?_ rfl)) rfl
    · simp (disch := first | omega | assumption | exact b2i_or | exact T10 | exact Or.inl rfl | exact Or.inr rfl) only [bMo_read_0, bMo_read_12, bMo_read_22, bMo_read_28, bMo_read_39, Mo_plA ha, h1, show ¬ (1 : Int32) ≤ 0 by decide, tl_s, not_true_eq_false, not_false_eq_true, and_self, and_true, true_and, and_false, false_and, or_true, true_or, or_false, false_or, or_self, if_true, if_false, ite_self, eq_self, Bool.false_eq_true, Bool.true_eq_false]
      exact k _ (by repeat' (first | exact qt_rf | assumption | refine qt_sI ?_ rfl | refine qt_sL ?_ rfl)) rfl rfl
  obtain ⟨t, ht, rfl⟩ := mOut_n ha
  have e4 := RTr_at hR ht
  rcases hR.2.2.2 t ht with hl | ⟨n, hn, hl⟩
  · refine pairL_q hI (-1) (nI 3) (fun Q k => ?_) (fun τ q Q k => ?_)
    · simp (disch := first | omega | assumption | exact b2i_or | exact T10 | exact Or.inl rfl | exact Or.inr rfl) only [bPb_read_0, bPb_read_9, bPb_read_14, bPb_read_19, bPb_read_21, bPb_read_35, Tr_whyB ht (e4.trans hl), bPb_refuse_0, show ¬ nI 3 = 0 by decide, tl_s, not_true_eq_false, not_false_eq_true, and_self, and_true, true_and, and_false, false_and, or_true, true_or, or_false, false_or, or_self, if_true, if_false, ite_self, eq_self, Bool.false_eq_true, Bool.true_eq_false]
      exact k _ (by repeat' (first | exact qt_rf | assumption | refine qt_sI ?_ rfl | refine qt_sL ?_ rfl)) rfl
    · simp (disch := first | omega | assumption | exact b2i_or | exact T10 | exact Or.inl rfl | exact Or.inr rfl) only [bMo_read_0, bMo_read_12, bMo_read_22, bMo_read_28, bMo_read_39, Mo_plB (σ := sI τ 166 1 0) ht ((q 168 t rfl).1.trans hl), h1, show ¬ nI 3 ≤ 0 by decide, tl_s, not_true_eq_false, not_false_eq_true, and_self, and_true, true_and, and_false, false_and, or_true, true_or, or_false, false_or, or_self, if_true, if_false, ite_self, eq_self, Bool.false_eq_true, Bool.true_eq_false]
      exact k _ (by repeat' (first | exact qt_rf | assumption | refine qt_sI ?_ rfl | refine qt_sL ?_ rfl)) rfl rfl
  by_cases hb : mOut b n = false
  rotate_left
  · refine pairL_q hI (-1) (nI 4) (fun Q k => ?_) (fun τ q Q k => ?_)
    · simp (disch := first | omega | assumption | exact b2i_or | exact T10 | exact Or.inl rfl | exact Or.inr rfl) only [bPb_read_0, bPb_read_9, bPb_read_14, bPb_read_19, bPb_read_21, bPb_read_35, Tr_whyC ht hn (e4.trans hl) hb, bPb_refuse_0, show ¬ nI 4 = 0 by decide, tl_s, not_true_eq_false, not_false_eq_true, and_self, and_true, true_and, and_false, false_and, or_true, true_or, or_false, false_or, or_self, if_true, if_false, ite_self, eq_self, Bool.false_eq_true, Bool.true_eq_false]
      exact k _ (by repeat' (first | exact qt_rf | assumption | refine qt_sI ?_ rfl | refine qt_sL ?_ rfl)) rfl
    · simp (disch := first | omega | assumption | exact b2i_or | exact T10 | exact Or.inl rfl | exact Or.inr rfl) only [bMo_read_0, bMo_read_12, bMo_read_22, bMo_read_28, bMo_read_39, Mo_plC (σ := sI τ 166 1 0) ht hn ((q 168 t rfl).1.trans hl) hb, h1, show ¬ nI 4 ≤ 0 by decide, tl_s, not_true_eq_false, not_false_eq_true, and_self, and_true, true_and, and_false, false_and, or_true, true_or, or_false, false_or, or_self, if_true, if_false, ite_self, eq_self, Bool.false_eq_true, Bool.true_eq_false]
      exact k _ (by repeat' (first | exact qt_rf | assumption | refine qt_sI ?_ rfl | refine qt_sL ?_ rfl)) rfl rfl
  have hwd := fun (Q : mPost) => Tr_whyD (E := E) (d := d + 1) (Q := Q) ht hn (e4.trans hl) hb
  have hrw := fun (Q : mPost) => Tr_row1 (E := E) (d := d + 1) (σ := sI σ 0 10 0) (b := b) (Q := Q) ht hn (e4.trans hl)
  obtain ⟨j, hj, rfl⟩ := mOut_n hb
  refine pairL_q hI (σ.2 169 (60 * t + j)) 0 (fun Q k => ?_) (fun τ q Q k => ?_)
  · simp (disch := first | omega | assumption | exact b2i_or | exact T10 | exact Or.inl rfl | exact Or.inr rfl) only [bPb_read_0, bPb_read_9, bPb_read_14, bPb_read_19, bPb_read_21, bPb_read_35, hwd, bTr_at_0, bTr_at_7, bTr_at_10, bTr_at_24, bTr_at_25, hrw, b2i_0, hb, tl_s, nI_add, nI_1, pk_mul, mOut_f, nI_clamp, hR.1, sI_r2, Nat.mul_comm t 60, not_true_eq_false, not_false_eq_true, and_self, and_true, true_and, and_false, false_and, or_true, true_or, or_false, false_or, or_self, if_true, if_false, ite_self, eq_self, Bool.false_eq_true, Bool.true_eq_false]
    exact k _ (by repeat' (first | exact qt_rf | assumption | refine qt_sI ?_ rfl | refine qt_sL ?_ rfl)) rfl
  · simp (disch := first | omega | assumption | exact b2i_or | exact T10 | exact Or.inl rfl | exact Or.inr rfl) only [bMo_read_0, bMo_read_12, bMo_read_22, bMo_read_28, bMo_read_39, Mo_plD (σ := sI τ 166 1 0) ht hn ((q 168 t rfl).1.trans hl) hj, h1, show (0 : Int32) ≤ 0 by decide, tl_s, nI_add, nI_1, pk_mul, mOut_f, nI_clamp, sI_r2, (q 169 (60 * t + j) rfl).2, not_true_eq_false, not_false_eq_true, and_self, and_true, true_and, and_false, false_and, or_true, true_or, or_false, false_or, or_self, if_true, if_false, ite_self, eq_self, Bool.false_eq_true, Bool.true_eq_false]
    exact k _ (by repeat' (first | exact qt_rf | assumption | refine qt_sI ?_ rfl | refine qt_sL ?_ rfl)) rfl rfl
theorem P_write {E : mEn} {d : Nat} {σ : mSt} {a b : Int32} {v : Int64} (hI : Inv σ) : pairI E (d + 6) mPb_write mMo_write [.ref 0, .int a, .int b, .long v, uu, uu] [.ref 166, .int a, .int b, .long v, uu] σ := by
  have hR : RTr σ := hI.2.2.2.2.2.1
  have h1 : ∀ (s : Int32) (τ : mSt), ((sI τ 166 0 s).1 166 0 ≤ 0) = (s ≤ 0) := fun _ _ => rfl
  by_cases ha : mOut a 4 = false
  rotate_left
  · refine pairI_q hI 0 1 (fun Q k => ?_) (fun τ q Q k => ?_)
    · simp (disch := first | omega | assumption | exact b2i_or | exact T10 | exact Or.inl rfl | exact Or.inr rfl) only [bPb_write_0, bPb_write_9, bPb_write_16, bPb_write_22, bPb_write_23, bPb_write_33, bPb_write_37, Tr_whyA ha, bPb_deny_0, i10, tl_s, not_true_eq_false, not_false_eq_true, and_self, and_true, true_and, and_false, false_and, or_true, true_or, or_false, false_or, or_self, if_true, if_false, ite_self, eq_self, Bool.false_eq_true, Bool.true_eq_false]
      exact k _ (by repeat' (first | exact qt_rf | assumption | refine qt_sI ?_ rfl | refine qt_sL ?_ rfl)) rfl
    · simp (disch := first | omega | assumption | exact b2i_or | exact T10 | exact Or.inl rfl | exact Or.inr rfl) only [bMo_write_0, bMo_write_12, bMo_write_22, bMo_write_24, bMo_write_44, Mo_plA ha, h1, show ¬ (1 : Int32) ≤ 0 by decide, tl_s, not_true_eq_false, not_false_eq_true, and_self, and_true, true_and, and_false, false_and, or_true, true_or, or_false, false_or, or_self, if_true, if_false, ite_self, eq_self, Bool.false_eq_true, Bool.true_eq_false]
      exact k _ (by repeat' (first | exact qt_rf | assumption | refine qt_sI ?_ rfl | refine qt_sL ?_ rfl)) rfl rfl
  obtain ⟨t, ht, rfl⟩ := mOut_n ha
  have e4 := RTr_at hR ht
  rcases hR.2.2.2 t ht with hl | ⟨n, hn, hl⟩
  · refine pairI_q hI 0 (nI 3) (fun Q k => ?_) (fun τ q Q k => ?_)
    · simp (disch := first | omega | assumption | exact b2i_or | exact T10 | exact Or.inl rfl | exact Or.inr rfl) only [bPb_write_0, bPb_write_9, bPb_write_16, bPb_write_22, bPb_write_23, bPb_write_33, bPb_write_37, Tr_whyB ht (e4.trans hl), bPb_deny_0, show ¬ nI 3 = 0 by decide, tl_s, not_true_eq_false, not_false_eq_true, and_self, and_true, true_and, and_false, false_and, or_true, true_or, or_false, false_or, or_self, if_true, if_false, ite_self, eq_self, Bool.false_eq_true, Bool.true_eq_false]
      exact k _ (by repeat' (first | exact qt_rf | assumption | refine qt_sI ?_ rfl | refine qt_sL ?_ rfl)) rfl
    · simp (disch := first | omega | assumption | exact b2i_or | exact T10 | exact Or.inl rfl | exact Or.inr rfl) only [bMo_write_0, bMo_write_12, bMo_write_22, bMo_write_24, bMo_write_44, Mo_plB (σ := sI τ 166 1 0) ht ((q 168 t rfl).1.trans hl), h1, show ¬ nI 3 ≤ 0 by decide, tl_s, not_true_eq_false, not_false_eq_true, and_self, and_true, true_and, and_false, false_and, or_true, true_or, or_false, false_or, or_self, if_true, if_false, ite_self, eq_self, Bool.false_eq_true, Bool.true_eq_false]
      exact k _ (by repeat' (first | exact qt_rf | assumption | refine qt_sI ?_ rfl | refine qt_sL ?_ rfl)) rfl rfl
  by_cases hb : mOut b n = false
  rotate_left
  · refine pairI_q hI 0 (nI 4) (fun Q k => ?_) (fun τ q Q k => ?_)
    · simp (disch := first | omega | assumption | exact b2i_or | exact T10 | exact Or.inl rfl | exact Or.inr rfl) only [bPb_write_0, bPb_write_9, bPb_write_16, bPb_write_22, bPb_write_23, bPb_write_33, bPb_write_37, Tr_whyC ht hn (e4.trans hl) hb, bPb_deny_0, show ¬ nI 4 = 0 by decide, tl_s, not_true_eq_false, not_false_eq_true, and_self, and_true, true_and, and_false, false_and, or_true, true_or, or_false, false_or, or_self, if_true, if_false, ite_self, eq_self, Bool.false_eq_true, Bool.true_eq_false]
      exact k _ (by repeat' (first | exact qt_rf | assumption | refine qt_sI ?_ rfl | refine qt_sL ?_ rfl)) rfl
    · simp (disch := first | omega | assumption | exact b2i_or | exact T10 | exact Or.inl rfl | exact Or.inr rfl) only [bMo_write_0, bMo_write_12, bMo_write_22, bMo_write_24, bMo_write_44, Mo_plC (σ := sI τ 166 1 0) ht hn ((q 168 t rfl).1.trans hl) hb, h1, show ¬ nI 4 ≤ 0 by decide, tl_s, not_true_eq_false, not_false_eq_true, and_self, and_true, true_and, and_false, false_and, or_true, true_or, or_false, false_or, or_self, if_true, if_false, ite_self, eq_self, Bool.false_eq_true, Bool.true_eq_false]
      exact k _ (by repeat' (first | exact qt_rf | assumption | refine qt_sI ?_ rfl | refine qt_sL ?_ rfl)) rfl rfl
  have hwd := fun (Q : mPost) => Tr_whyD (E := E) (d := d + 1) (Q := Q) ht hn (e4.trans hl) hb
  have hrw := fun (Q : mPost) => Tr_row1 (E := E) (d := d + 1) (σ := σ) (b := b) (Q := Q) ht hn (e4.trans hl)
  obtain ⟨j, hj, rfl⟩ := mOut_n hb
  have e3 : σ.1 3 t = σ.1 167 t := by rw [hR.2.1]
  unfold pairI
  simp (disch := first | omega | assumption | exact b2i_or | exact T10 | exact Or.inl rfl | exact Or.inr rfl) only [bPb_write_0, bPb_write_9, bPb_write_16, bPb_write_22, bPb_write_23, bPb_write_33, bPb_write_37, hwd, bTr_put_0, bTr_put_7, bTr_put_10, bTr_put_30, bTr_put_31, hrw, Tr_cutTo, b2i_0, hb, bPb_grant_0, tl_s, tl_n, nI_add, nI_1, pk_mul, mOut_f, nI_clamp, not_true_eq_false, not_false_eq_true, and_self, and_true, true_and, and_false, false_and, or_true, true_or, or_false, false_or, or_self, if_true, if_false, ite_self, eq_self, Bool.false_eq_true, Bool.true_eq_false]
  refine ⟨1, rfl, ?_⟩
  have hpl := fun (τ : mSt) (h : τ.1 168 t = nI n) (Q : mPost) => Mo_plD (E := E) (d := d + 4) (σ := τ) (u := uu) (Q := Q) ht hn h hj
  simp only [bMo_write_0]
  rw [hpl (sI (sI (sL σ 2 (t * 60 + j) (cutF (σ.1 3 t) v)) 0 10 0) 166 1 0) hl]
  simp (disch := first | omega | assumption | exact b2i_or | exact T10 | exact Or.inl rfl | exact Or.inr rfl) only [bMo_write_0, bMo_write_12, bMo_write_22, bMo_write_24, bMo_write_44, h1, show (0 : Int32) ≤ 0 by decide, Mo_cut, tl_s, nI_add, nI_1, pk_mul, mOut_f, nI_clamp, not_true_eq_false, not_false_eq_true, and_self, and_true, true_and, and_false, false_and, or_true, true_or, or_false, false_or, or_self, if_true, if_false, ite_self, eq_self, Bool.false_eq_true, Bool.true_eq_false]
  refine Inv_Tr hI (by repeat' (first | exact qt_rf | assumption | refine qt_sI ?_ rfl | refine qt_sL ?_ rfl)) rfl ?_
  obtain ⟨r1, r2, r3, r4⟩ := hR
  refine ⟨?_, r2, r3, r4⟩
  have e5 : ∀ x, σ.2 2 x = σ.2 169 x := fun x => congrFun r1 x
  funext x
  by_cases hx : x = 60 * t + j
  · simp [sL, sI, hx, e3, Nat.mul_comm]
  · have hx2 : ¬ x = t * 60 + j := by omega
    simp [sL, sI, hx, hx2, e5]
