theorem sub_lt {n m p : Nat} (hn : n ≤ 60) (hm : m < 2 ^ 31) (hp : p < 2 ^ 31) : (nI n - nI m < nI p) = ¬ p + m ≤ n := by
  apply propext
  have e : (nI n - nI m).toInt = (n : Int) - m := by
    rw [Int32.toInt_sub, nI_toInt (by omega), nI_toInt hm]
    exact Int.bmod_eq_of_le (by omega) (by omega)
  rw [Int32.lt_iff_toInt_lt, e, nI_toInt hp]
  omega
theorem add64 {n m p : Nat} (hn : n ≤ 60) (hm : m < 2 ^ 31) (hp : p < 2 ^ 31) : ((nI n).toInt64 < (nI p).toInt64 + (nI m).toInt64) = ¬ p + m ≤ n := by
  apply propext
  have e : ((nI p).toInt64 + (nI m).toInt64).toInt = (p : Int) + m := by
    rw [Int64.toInt_add, Int32.toInt_toInt64, Int32.toInt_toInt64, nI_toInt hp, nI_toInt hm]
    exact Int.bmod_eq_of_le (by omega) (by omega)
  rw [Int64.lt_iff_toInt_lt, e, Int32.toInt_toInt64, nI_toInt (by omega)]
  omega
theorem lg_le {x y : Int64} : (lg_cmp x y ≤ 0) = ¬ (y < x) := by
  rw [← lg_gt]
  exact propext (Int32.not_lt).symm
theorem Tr_row {E : mEn} {d : Nat} {σ : mSt} {Q : mPost} {t n p m : Nat} (ht : t < 4) (hn : n ≤ 60) (h : σ.1 4 t = nI n) (hp : p < 2 ^ 31) (hm : m < 2 ^ 31) : WP E (d + 3) mTr_hasRow 0 [.ref 1, .int (nI t), .int (nI p), .int (nI m)] [] σ Q = Q (some (.int (b2i (p + m ≤ n)))) σ := by
  simp (disch := first | omega | assumption | exact b2i_or | exact T10 | exact Or.inl rfl | exact Or.inr rfl) only [bTr_hasRow_0, bTr_hasRow_4, bTr_hasRow_8, bTr_hasRow_14, bTr_hasRow_19, bTr_hasRow_23, bTr_hasRow_24, Tr_len ht hn h, tl_s, nI_pos, sub_lt, b2i_Q, not_true_eq_false, not_false_eq_true, and_self, and_true, true_and, and_false, false_and, or_true, true_or, or_false, false_or, or_self, if_true, if_false, ite_self, eq_self, Bool.false_eq_true, Bool.true_eq_false]
  by_cases q : p + m ≤ n <;> simp only [q, not_true_eq_false, not_false_eq_true, and_self, and_true, true_and, and_false, false_and, or_true, true_or, or_false, false_or, or_self, if_true, if_false, ite_self, eq_self, Bool.false_eq_true, Bool.true_eq_false]
theorem Tr_rowN {E : mEn} {d : Nat} {σ : mSt} {Q : mPost} {t : Nat} {a b : Int32} (h : a < 0) : WP E (d + 3) mTr_hasRow 0 [.ref 1, .int (nI t), .int a, .int b] [] σ Q = Q (some (.int 0)) σ := by
  simp (disch := first | omega | assumption | exact b2i_or | exact T10 | exact Or.inl rfl | exact Or.inr rfl) only [bTr_hasRow_0, bTr_hasRow_4, bTr_hasRow_8, bTr_hasRow_14, bTr_hasRow_19, bTr_hasRow_23, bTr_hasRow_24, h, not_true_eq_false, not_false_eq_true, and_self, and_true, true_and, and_false, false_and, or_true, true_or, or_false, false_or, or_self, if_true, if_false, ite_self, eq_self, Bool.false_eq_true, Bool.true_eq_false]
theorem Tr_alike {E : mEn} {d : Nat} {σ : mSt} {Q : mPost} {t u : Nat} (ht : t < 4) (hu : u < 4) : WP E (d + 1) mTr_alike 0 [.ref 1, .int (nI t), .int (nI u)] [] σ Q = Q (some (.int (b2i (σ.1 3 t = σ.1 3 u)))) σ := by
  simp (disch := first | omega | assumption | exact b2i_or | exact T10 | exact Or.inl rfl | exact Or.inr rfl) only [bTr_alike_0, bTr_alike_5, bTr_alike_8, bTr_alike_13, bTr_alike_16, bTr_alike_31, bTr_alike_35, bTr_alike_36, Tr_ex, b2i_0, tl_s, nI_add, nI_1, pk_mul, mOut_f, nI_clamp, b2i_Q, not_true_eq_false, not_false_eq_true, and_self, and_true, true_and, and_false, false_and, or_true, true_or, or_false, false_or, or_self, if_true, if_false, ite_self, eq_self, Bool.false_eq_true, Bool.true_eq_false]
  by_cases q : σ.1 3 t = σ.1 3 u <;> simp only [q, not_true_eq_false, not_false_eq_true, and_self, and_true, true_and, and_false, false_and, or_true, true_or, or_false, false_or, or_self, if_true, if_false, ite_self, eq_self, Bool.false_eq_true, Bool.true_eq_false]
theorem cpy_s {α : Type} {f : Nat → α} {s D k m : Nat} (hk : k < m) (h : D ≤ s ∨ D + m ≤ s ∨ s + m ≤ D) : (fun x => if x = D + k then va_cpy f f s D k (s + k) else va_cpy f f s D k x) = va_cpy f f s D (k + 1) := by
  have e : va_cpy f f s D k (s + k) = f (s + k) := pk_cpy_out (by omega)
  funext x
  rw [e]
  by_cases hx : x = D + k
  · rw [if_pos hx, hx, pk_cpy_in (by omega) (by omega)]
    congr 1; omega
  · rw [if_neg hx]
    by_cases hy : D ≤ x ∧ x < D + k
    · rw [pk_cpy_in hy.1 hy.2, pk_cpy_in hy.1 (by omega)]
    · rw [pk_cpy_out (by omega), pk_cpy_out (by omega)]
theorem cpy_r {α : Type} {f : Nat → α} {s D k m : Nat} (hk : k < m) (h : s < D ∨ D + m ≤ s ∨ s + m ≤ D) : (fun x => if x = D + (m - 1 - k) then va_cpy f f (s + (m - k)) (D + (m - k)) k (s + (m - 1 - k)) else va_cpy f f (s + (m - k)) (D + (m - k)) k x) = va_cpy f f (s + (m - (k + 1))) (D + (m - (k + 1))) (k + 1) := by
  have e : va_cpy f f (s + (m - k)) (D + (m - k)) k (s + (m - 1 - k)) = f (s + (m - 1 - k)) := pk_cpy_out (by omega)
  funext x
  rw [e]
  by_cases hx : x = D + (m - 1 - k)
  · rw [if_pos hx, hx, pk_cpy_in (by omega) (by omega)]
    congr 1; omega
  · rw [if_neg hx]
    by_cases hy : D + (m - k) ≤ x ∧ x < D + (m - k) + k
    · rw [pk_cpy_in hy.1 hy.2, pk_cpy_in (by omega) (by omega)]
      congr 1; omega
    · rw [pk_cpy_out (by omega), pk_cpy_out (by omega)]
theorem Mo_pour_f {E : mEn} {d : Nat} {Q : mPost} {t u p r m : Nat} {f : Nat → Int64} {u8 : Value} (ht : t < 4) (hu : u < 4) (h1 : p + m ≤ 60) (h2 : r + m ≤ 60) (hal : 60 * u + r ≤ 60 * t + p ∨ 60 * u + r + m ≤ 60 * t + p ∨ 60 * t + p + m ≤ 60 * u + r) : ∀ (j k : Nat) (σ : mSt) (u8 : Value), k + j = m → σ.2 169 = va_cpy f f (60 * t + p) (60 * u + r) k → (∀ τ, qt (fun o _ => o == 169) σ τ → τ.2 169 = va_cpy f f (60 * t + p) (60 * u + r) m → Q (some (.int 1)) τ) → WP E d mMo_pour 158 [.ref 166, .int (nI t), .int (nI p), .int (nI u), .int (nI r), .int (nI m), .int 0, .int (nI k), u8] [] σ Q
  | 0, k, σ, u8, h, hf, hQ => by
    have e : k = m := by omega
    rw [bMo_pour_158, if_pos (nI_le (by omega) (by omega)), bMo_pour_219]
    exact hQ σ qt_rf (by rw [hf, e])
  | j + 1, k, σ, u8, h, hf, hQ => by
    rw [bMo_pour_158, if_neg (nI_ge (by omega) (by omega))]
    simp (disch := first | omega | assumption | exact b2i_or | exact T10 | exact Or.inl rfl | exact Or.inr rfl) only [bMo_pour_165, bMo_pour_180, bMo_pour_182, nI_add, nI_1, pk_mul, mOut_f, nI_clamp, not_true_eq_false, not_false_eq_true, and_self, and_true, true_and, and_false, false_and, or_true, true_or, or_false, false_or, or_self, if_true, if_false, ite_self, eq_self, Bool.false_eq_true, Bool.true_eq_false]
    refine Mo_pour_f (u8 := u8) ht hu h1 h2 hal j (k + 1) _ _ (by omega) ?_ (fun τ q e => hQ τ (qt_tr (qt_sL qt_rf rfl) q) e)
    rw [sL_u, hf]
    exact cpy_s (m := m) (by omega) hal
theorem Mo_pour_r {E : mEn} {d : Nat} {Q : mPost} {t u p r m : Nat} {f : Nat → Int64} (ht : t < 4) (hu : u < 4) (h1 : p + m ≤ 60) (h2 : r + m ≤ 60) (hal : 60 * t + p < 60 * u + r ∨ 60 * u + r + m ≤ 60 * t + p ∨ 60 * t + p + m ≤ 60 * u + r) : ∀ (j k : Nat) (σ : mSt) (u8 : Value), k + j = m → σ.2 169 = va_cpy f f (60 * t + p + (m - k)) (60 * u + r + (m - k)) k → (∀ τ, qt (fun o _ => o == 169) σ τ → τ.2 169 = va_cpy f f (60 * t + p) (60 * u + r) m → Q (some (.int 1)) τ) → WP E d mMo_pour 158 [.ref 166, .int (nI t), .int (nI p), .int (nI u), .int (nI r), .int (nI m), .int 1, .int (nI k), u8] [] σ Q
  | 0, k, σ, u8, h, hf, hQ => by
    have e : k = m := by omega
    rw [bMo_pour_158, if_pos (nI_le (by omega) (by omega)), bMo_pour_219]
    exact hQ σ qt_rf (by rw [hf, e, Nat.sub_self, Nat.add_zero, Nat.add_zero])
  | j + 1, k, σ, u8, h, hf, hQ => by
    have e1 : nI m - 1 - nI k = nI (m - 1 - k) := by
      obtain ⟨m', rfl⟩ : ∃ m', m = m' + 1 := ⟨m - 1, by omega⟩
      rw [nI_pred, pk_sub (by omega)]; rfl
    rw [bMo_pour_158, if_neg (nI_ge (by omega) (by omega))]
    simp (disch := first | omega | assumption | exact b2i_or | exact T10 | exact Or.inl rfl | exact Or.inr rfl) only [bMo_pour_165, bMo_pour_170, bMo_pour_182, i10, e1, nI_add, nI_1, pk_mul, mOut_f, nI_clamp, not_true_eq_false, not_false_eq_true, and_self, and_true, true_and, and_false, false_and, or_true, true_or, or_false, false_or, or_self, if_true, if_false, ite_self, eq_self, Bool.false_eq_true, Bool.true_eq_false]
    refine Mo_pour_r ht hu h1 h2 hal j (k + 1) _ _ (by omega) ?_ (fun τ q e => hQ τ (qt_tr (qt_sL qt_rf rfl) q) e)
    rw [sL_u, hf]
    exact cpy_r (m := m) (by omega) hal
theorem P_pour {E : mEn} {d : Nat} {σ : mSt} {a i b j m : Int32} (hI : Inv σ) : pairI E (d + 6) mPb_pour mMo_pour [.ref 0, .int a, .int i, .int b, .int j, .int m] [.ref 166, .int a, .int i, .int b, .int j, .int m, uu, uu, uu] σ := by
  have hR : RTr σ := hI.2.2.2.2.2.1
  by_cases ha : mOut a 4 = false
  rotate_left
  · refine pairI_q hI 0 1 (fun Q k => ?_) (fun τ q Q k => ?_)
    · simp (disch := first | omega | assumption | exact b2i_or | exact T10 | exact Or.inl rfl | exact Or.inr rfl) only [bPb_pour_0, bPb_pour_8, bPb_pour_11, bPb_pour_19, bPb_pour_22, bPb_pour_27, bPb_pour_28, bPb_pour_36, bPb_pour_39, bPb_pour_47, bPb_pour_50, bPb_pour_55, bPb_pour_56, bPb_pour_65, bPb_pour_68, bPb_pour_74, bPb_pour_75, bPb_pour_80, bPb_pour_86, bPb_pour_87, bPb_pour_98, bPb_pour_101, bPb_pour_113, bPb_pour_116, bPb_pour_121, bPb_pour_122, bPb_pour_136, bPb_pour_140, Tr_ex, b2i_f ha, bPb_deny_0, tl_s, not_true_eq_false, not_false_eq_true, and_self, and_true, true_and, and_false, false_and, or_true, true_or, or_false, false_or, or_self, if_true, if_false, ite_self, eq_self, Bool.false_eq_true, Bool.true_eq_false]
      exact k _ (by repeat' (first | exact qt_rf | assumption | refine qt_sI ?_ rfl | refine qt_sL ?_ rfl)) rfl
    · have e : ∀ A B : Prop, (if a < 0 then A else if nI 4 ≤ a then A else B) = A := fun A B => by rw [in2 (by omega), if_neg ha]
      rw [bMo_pour_0, bMo_pour_14, e]
      simp only [bMo_pour_28, bMo_pour_33, bMo_no_0, tl_s, not_true_eq_false, not_false_eq_true, and_self, and_true, true_and, and_false, false_and, or_true, true_or, or_false, false_or, or_self, if_true, if_false, ite_self, eq_self, Bool.false_eq_true, Bool.true_eq_false]
      exact k _ (by repeat' (first | exact qt_rf | assumption | refine qt_sI ?_ rfl | refine qt_sL ?_ rfl)) rfl rfl
  obtain ⟨t, ht, rfl⟩ := mOut_n ha
  by_cases hb : mOut b 4 = false
  rotate_left
  · refine pairI_q hI 0 1 (fun Q k => ?_) (fun τ q Q k => ?_)
    · simp (disch := first | omega | assumption | exact b2i_or | exact T10 | exact Or.inl rfl | exact Or.inr rfl) only [bPb_pour_0, bPb_pour_8, bPb_pour_11, bPb_pour_19, bPb_pour_22, bPb_pour_27, bPb_pour_28, bPb_pour_36, bPb_pour_39, bPb_pour_47, bPb_pour_50, bPb_pour_55, bPb_pour_56, bPb_pour_65, bPb_pour_68, bPb_pour_74, bPb_pour_75, bPb_pour_80, bPb_pour_86, bPb_pour_87, bPb_pour_98, bPb_pour_101, bPb_pour_113, bPb_pour_116, bPb_pour_121, bPb_pour_122, bPb_pour_136, bPb_pour_140, Tr_ex, b2i_t ha, b2i_f hb, i10, bPb_deny_0, tl_s, not_true_eq_false, not_false_eq_true, and_self, and_true, true_and, and_false, false_and, or_true, true_or, or_false, false_or, or_self, if_true, if_false, ite_self, eq_self, Bool.false_eq_true, Bool.true_eq_false]
      exact k _ (by repeat' (first | exact qt_rf | assumption | refine qt_sI ?_ rfl | refine qt_sL ?_ rfl)) rfl
    · have h' : mOut b 4 = true := by simpa using hb
      by_cases h0 : b < 0
      · simp (disch := first | omega | assumption | exact b2i_or | exact T10 | exact Or.inl rfl | exact Or.inr rfl) only [bMo_pour_0, bMo_pour_14, bMo_pour_19, bMo_pour_28, bMo_pour_33, bMo_no_0, tl_s, nI_pos, nI_ge, h0, not_true_eq_false, not_false_eq_true, and_self, and_true, true_and, and_false, false_and, or_true, true_or, or_false, false_or, or_self, if_true, if_false, ite_self, eq_self, Bool.false_eq_true, Bool.true_eq_false]
        exact k _ (by repeat' (first | exact qt_rf | assumption | refine qt_sI ?_ rfl | refine qt_sL ?_ rfl)) rfl rfl
      · have h1 : ¬ b < nI 4 := Int32.not_lt.mpr (((mOut_or (by omega)).mp h').resolve_left h0)
        simp (disch := first | omega | assumption | exact b2i_or | exact T10 | exact Or.inl rfl | exact Or.inr rfl) only [bMo_pour_0, bMo_pour_14, bMo_pour_19, bMo_pour_23, bMo_pour_28, bMo_pour_33, bMo_no_0, tl_s, nI_pos, nI_ge, h0, h1, not_true_eq_false, not_false_eq_true, and_self, and_true, true_and, and_false, false_and, or_true, true_or, or_false, false_or, or_self, if_true, if_false, ite_self, eq_self, Bool.false_eq_true, Bool.true_eq_false]
        exact k _ (by repeat' (first | exact qt_rf | assumption | refine qt_sI ?_ rfl | refine qt_sL ?_ rfl)) rfl rfl
  obtain ⟨u, hu, rfl⟩ := mOut_n hb
  have e4 := RTr_at hR ht
  have e5 := RTr_at hR hu
  have hq : ∀ τ : mSt, qt SQ σ τ → τ.1 168 = σ.1 168 := fun τ q => funext fun k => (q 168 k rfl).1
  have hq7 : ∀ τ : mSt, qt SQ σ τ → τ.1 167 = σ.1 167 := fun τ q => funext fun k => (q 167 k rfl).1
  have M0 : ∀ (τ : mSt) (Q : mPost), WP E (d + 6) mMo_pour 0 [.ref 166, .int (nI t), .int i, .int (nI u), .int j, .int m, uu, uu, uu] [] τ Q = WP E (d + 6) mMo_pour 34 [.ref 166, .int (nI t), .int i, .int (nI u), .int j, .int m, uu, uu, uu] [] (sI (sI τ 166 1 0) 166 0 0) Q := fun τ Q => by
    simp (disch := first | omega | assumption | exact b2i_or | exact T10 | exact Or.inl rfl | exact Or.inr rfl) only [bMo_pour_0, bMo_pour_14, bMo_pour_19, bMo_pour_23, nI_pos, nI_ge, nI_lt, not_true_eq_false, not_false_eq_true, and_self, and_true, true_and, and_false, false_and, or_true, true_or, or_false, false_or, or_self, if_true, if_false, ite_self, eq_self, Bool.false_eq_true, Bool.true_eq_false]
  have r1 : ∀ (τ : mSt), (sI (sI τ 166 1 0) 166 0 0).1 168 = τ.1 168 := fun _ => rfl
  have r2 : ∀ (τ : mSt), (sI (sI τ 166 1 0) 166 0 0).1 167 = τ.1 167 := fun _ => rfl
  rcases hR.2.2.2 t ht with hl | ⟨n, hn, hl⟩
  · refine pairI_q hI 0 (nI 3) (fun Q k => ?_) (fun τ q Q k => ?_)
    · simp (disch := first | omega | assumption | exact b2i_or | exact T10 | exact Or.inl rfl | exact Or.inr rfl) only [bPb_pour_0, bPb_pour_8, bPb_pour_11, bPb_pour_19, bPb_pour_22, bPb_pour_27, bPb_pour_28, bPb_pour_36, bPb_pour_39, bPb_pour_47, bPb_pour_50, bPb_pour_55, bPb_pour_56, bPb_pour_65, bPb_pour_68, bPb_pour_74, bPb_pour_75, bPb_pour_80, bPb_pour_86, bPb_pour_87, bPb_pour_98, bPb_pour_101, bPb_pour_113, bPb_pour_116, bPb_pour_121, bPb_pour_122, bPb_pour_136, bPb_pour_140, Tr_ex, b2i_t ha, b2i_t hb, Tr_missB ht (e4.trans hl), i10, bPb_deny_0, tl_s, not_true_eq_false, not_false_eq_true, and_self, and_true, true_and, and_false, false_and, or_true, true_or, or_false, false_or, or_self, if_true, if_false, ite_self, eq_self, Bool.false_eq_true, Bool.true_eq_false]
      exact k _ (by repeat' (first | exact qt_rf | assumption | refine qt_sI ?_ rfl | refine qt_sL ?_ rfl)) rfl
    · rw [M0 τ Q]
      simp (disch := first | omega | assumption | exact b2i_or | exact T10 | exact Or.inl rfl | exact Or.inr rfl) only [bMo_pour_34, bMo_pour_52, bMo_pour_57, nI_add, nI_1, pk_mul, mOut_f, nI_clamp, r1, hq τ q, hl, m1neg.1, bMo_no_0, tl_s, not_true_eq_false, not_false_eq_true, and_self, and_true, true_and, and_false, false_and, or_true, true_or, or_false, false_or, or_self, if_true, if_false, ite_self, eq_self, Bool.false_eq_true, Bool.true_eq_false]
      exact k _ (by repeat' (first | exact qt_rf | assumption | refine qt_sI ?_ rfl | refine qt_sL ?_ rfl)) rfl rfl
  rcases hR.2.2.2 u hu with hl2 | ⟨n2, hn2, hl2⟩
  · refine pairI_q hI 0 (nI 3) (fun Q k => ?_) (fun τ q Q k => ?_)
    · simp (disch := first | omega | assumption | exact b2i_or | exact T10 | exact Or.inl rfl | exact Or.inr rfl) only [bPb_pour_0, bPb_pour_8, bPb_pour_11, bPb_pour_19, bPb_pour_22, bPb_pour_27, bPb_pour_28, bPb_pour_36, bPb_pour_39, bPb_pour_47, bPb_pour_50, bPb_pour_55, bPb_pour_56, bPb_pour_65, bPb_pour_68, bPb_pour_74, bPb_pour_75, bPb_pour_80, bPb_pour_86, bPb_pour_87, bPb_pour_98, bPb_pour_101, bPb_pour_113, bPb_pour_116, bPb_pour_121, bPb_pour_122, bPb_pour_136, bPb_pour_140, Tr_ex, b2i_t ha, b2i_t hb, Tr_missC ht hn (e4.trans hl), Tr_missB hu (e5.trans hl2), i10, bPb_deny_0, tl_s, not_true_eq_false, not_false_eq_true, and_self, and_true, true_and, and_false, false_and, or_true, true_or, or_false, false_or, or_self, if_true, if_false, ite_self, eq_self, Bool.false_eq_true, Bool.true_eq_false]
      exact k _ (by repeat' (first | exact qt_rf | assumption | refine qt_sI ?_ rfl | refine qt_sL ?_ rfl)) rfl
    · rw [M0 τ Q]
      simp (disch := first | omega | assumption | exact b2i_or | exact T10 | exact Or.inl rfl | exact Or.inr rfl) only [bMo_pour_34, bMo_pour_43, bMo_pour_52, bMo_pour_57, nI_add, nI_1, pk_mul, mOut_f, nI_clamp, r1, hq τ q, hl, hl2, nI_pos, m1neg.2, bMo_no_0, tl_s, not_true_eq_false, not_false_eq_true, and_self, and_true, true_and, and_false, false_and, or_true, true_or, or_false, false_or, or_self, if_true, if_false, ite_self, eq_self, Bool.false_eq_true, Bool.true_eq_false]
      exact k _ (by repeat' (first | exact qt_rf | assumption | refine qt_sI ?_ rfl | refine qt_sL ?_ rfl)) rfl rfl
  have e3 : ∀ x, σ.1 3 x = σ.1 167 x := fun x => by rw [hR.2.1]
  by_cases hso : σ.1 167 t = σ.1 167 u
  rotate_left
  · have hso' : ¬ σ.1 3 t = σ.1 3 u := by rw [e3, e3]; exact hso
    refine pairI_q hI 0 (nI 11) (fun Q k => ?_) (fun τ q Q k => ?_)
    · simp (disch := first | omega | assumption | exact b2i_or | exact T10 | exact Or.inl rfl | exact Or.inr rfl) only [bPb_pour_0, bPb_pour_8, bPb_pour_11, bPb_pour_19, bPb_pour_22, bPb_pour_27, bPb_pour_28, bPb_pour_36, bPb_pour_39, bPb_pour_47, bPb_pour_50, bPb_pour_55, bPb_pour_56, bPb_pour_65, bPb_pour_68, bPb_pour_74, bPb_pour_75, bPb_pour_80, bPb_pour_86, bPb_pour_87, bPb_pour_98, bPb_pour_101, bPb_pour_113, bPb_pour_116, bPb_pour_121, bPb_pour_122, bPb_pour_136, bPb_pour_140, Tr_ex, b2i_t ha, b2i_t hb, Tr_missC ht hn (e4.trans hl), Tr_missC hu hn2 (e5.trans hl2), Tr_alike ht hu, b2i_f hso', i10, bPb_deny_0, tl_s, not_true_eq_false, not_false_eq_true, and_self, and_true, true_and, and_false, false_and, or_true, true_or, or_false, false_or, or_self, if_true, if_false, ite_self, eq_self, Bool.false_eq_true, Bool.true_eq_false]
      exact k _ (by repeat' (first | exact qt_rf | assumption | refine qt_sI ?_ rfl | refine qt_sL ?_ rfl)) rfl
    · rw [M0 τ Q]
      simp (disch := first | omega | assumption | exact b2i_or | exact T10 | exact Or.inl rfl | exact Or.inr rfl) only [bMo_pour_34, bMo_pour_43, bMo_pour_58, bMo_pour_73, bMo_pour_79, nI_add, nI_1, pk_mul, mOut_f, nI_clamp, r1, r2, hq τ q, hq7 τ q, hl, hl2, hso, nI_pos, nI_pos', bMo_no_0, tl_s, not_true_eq_false, not_false_eq_true, and_self, and_true, true_and, and_false, false_and, or_true, true_or, or_false, false_or, or_self, if_true, if_false, ite_self, eq_self, Bool.false_eq_true, Bool.true_eq_false]
      exact k _ (by repeat' (first | exact qt_rf | assumption | refine qt_sI ?_ rfl | refine qt_sL ?_ rfl)) rfl rfl
  have hso' : σ.1 3 t = σ.1 3 u := by rw [e3, e3]; exact hso
  have X0 : ∀ (Q : mPost), WP E (d + 6) mPb_pour 0 [.ref 0, .int (nI t), .int i, .int (nI u), .int j, .int m] [] σ Q = WP E (d + 6) mPb_pour 75 [.ref 0, .int (nI t), .int i, .int (nI u), .int j, .int m] [] σ Q := fun Q => by
    simp (disch := first | omega | assumption | exact b2i_or | exact T10 | exact Or.inl rfl | exact Or.inr rfl) only [bPb_pour_0, bPb_pour_8, bPb_pour_11, bPb_pour_19, bPb_pour_28, bPb_pour_36, bPb_pour_39, bPb_pour_47, bPb_pour_56, bPb_pour_65, Tr_ex, b2i_t ha, b2i_t hb, Tr_missC ht hn (e4.trans hl), Tr_missC hu hn2 (e5.trans hl2), Tr_alike ht hu, b2i_t hso', i10, tl_s, not_true_eq_false, not_false_eq_true, and_self, and_true, true_and, and_false, false_and, or_true, true_or, or_false, false_or, or_self, if_true, if_false, ite_self, eq_self, Bool.false_eq_true, Bool.true_eq_false]
  have M1 : ∀ (τ : mSt) (Q : mPost), τ.1 168 = σ.1 168 → τ.1 167 = σ.1 167 → WP E (d + 6) mMo_pour 0 [.ref 166, .int (nI t), .int i, .int (nI u), .int j, .int m, uu, uu, uu] [] τ Q = WP E (d + 6) mMo_pour 80 [.ref 166, .int (nI t), .int i, .int (nI u), .int j, .int m, uu, uu, uu] [] (sI (sI τ 166 1 0) 166 0 0) Q := fun τ Q q q7 => by
    rw [M0 τ Q]
    simp (disch := first | omega | assumption | exact b2i_or | exact T10 | exact Or.inl rfl | exact Or.inr rfl) only [bMo_pour_34, bMo_pour_43, bMo_pour_58, nI_add, nI_1, pk_mul, mOut_f, nI_clamp, r1, r2, q, q7, hl, hl2, hso, nI_pos, nI_pos', not_true_eq_false, not_false_eq_true, and_self, and_true, true_and, and_false, false_and, or_true, true_or, or_false, false_or, or_self, if_true, if_false, ite_self, eq_self, Bool.false_eq_true, Bool.true_eq_false]
  by_cases hm0 : 0 ≤ m
  rotate_left
  · refine pairI_q hI 0 (nI 6) (fun Q k => ?_) (fun τ q Q k => ?_)
    · rw [X0]
      simp (disch := first | omega | assumption | exact b2i_or | exact T10 | exact Or.inl rfl | exact Or.inr rfl) only [bPb_pour_75, bPb_pour_80, bPb_pour_86, hm0, bPb_deny_0, tl_s, not_true_eq_false, not_false_eq_true, and_self, and_true, true_and, and_false, false_and, or_true, true_or, or_false, false_or, or_self, if_true, if_false, ite_self, eq_self, Bool.false_eq_true, Bool.true_eq_false]
      exact k _ (by repeat' (first | exact qt_rf | assumption | refine qt_sI ?_ rfl | refine qt_sL ?_ rfl)) rfl
    · rw [M1 τ Q (hq τ q) (hq7 τ q)]
      simp (disch := first | omega | assumption | exact b2i_or | exact T10 | exact Or.inl rfl | exact Or.inr rfl) only [bMo_pour_80, bMo_pour_85, bMo_pour_91, hm0, bMo_no_0, tl_s, not_true_eq_false, not_false_eq_true, and_self, and_true, true_and, and_false, false_and, or_true, true_or, or_false, false_or, or_self, if_true, if_false, ite_self, eq_self, Bool.false_eq_true, Bool.true_eq_false]
      exact k _ (by repeat' (first | exact qt_rf | assumption | refine qt_sI ?_ rfl | refine qt_sL ?_ rfl)) rfl rfl
  obtain ⟨c, hc, rfl⟩ := nI_of (Int32.not_lt.mpr hm0)
  by_cases hi0 : i < 0
  · refine pairI_q hI 0 (nI 4) (fun Q k => ?_) (fun τ q Q k => ?_)
    · rw [X0]
      simp (disch := first | omega | assumption | exact b2i_or | exact T10 | exact Or.inl rfl | exact Or.inr rfl) only [bPb_pour_75, bPb_pour_87, bPb_pour_98, bPb_pour_116, bPb_pour_121, Tr_rowN hi0, hm0, bPb_deny_0, tl_s, not_true_eq_false, not_false_eq_true, and_self, and_true, true_and, and_false, false_and, or_true, true_or, or_false, false_or, or_self, if_true, if_false, ite_self, eq_self, Bool.false_eq_true, Bool.true_eq_false]
      exact k _ (by repeat' (first | exact qt_rf | assumption | refine qt_sI ?_ rfl | refine qt_sL ?_ rfl)) rfl
    · rw [M1 τ Q (hq τ q) (hq7 τ q)]
      simp (disch := first | omega | assumption | exact b2i_or | exact T10 | exact Or.inl rfl | exact Or.inr rfl) only [bMo_pour_80, bMo_pour_92, bMo_pour_136, bMo_pour_141, hm0, hi0, bMo_no_0, tl_s, not_true_eq_false, not_false_eq_true, and_self, and_true, true_and, and_false, false_and, or_true, true_or, or_false, false_or, or_self, if_true, if_false, ite_self, eq_self, Bool.false_eq_true, Bool.true_eq_false]
      exact k _ (by repeat' (first | exact qt_rf | assumption | refine qt_sI ?_ rfl | refine qt_sL ?_ rfl)) rfl rfl
  obtain ⟨p, hp, rfl⟩ := nI_of hi0
  by_cases hj0 : j < 0
  · refine pairI_q hI 0 (nI 4) (fun Q k => ?_) (fun τ q Q k => ?_)
    · rw [X0]
      simp (disch := first | omega | assumption | exact b2i_or | exact T10 | exact Or.inl rfl | exact Or.inr rfl) only [bPb_pour_75, bPb_pour_87, bPb_pour_98, bPb_pour_101, bPb_pour_113, bPb_pour_116, bPb_pour_121, Tr_row ht hn (e4.trans hl) hp hc, Tr_rowN hj0, hm0, bPb_deny_0, tl_s, not_true_eq_false, not_false_eq_true, and_self, and_true, true_and, and_false, false_and, or_true, true_or, or_false, false_or, or_self, if_true, if_false, ite_self, eq_self, Bool.false_eq_true, Bool.true_eq_false]
      exact k _ (by repeat' (first | exact qt_rf | assumption | refine qt_sI ?_ rfl | refine qt_sL ?_ rfl)) rfl
    · rw [M1 τ Q (hq τ q) (hq7 τ q)]
      simp (disch := first | omega | assumption | exact b2i_or | exact T10 | exact Or.inl rfl | exact Or.inr rfl) only [bMo_pour_80, bMo_pour_92, bMo_pour_96, bMo_pour_136, bMo_pour_141, hm0, hi0, hj0, bMo_no_0, tl_s, not_true_eq_false, not_false_eq_true, and_self, and_true, true_and, and_false, false_and, or_true, true_or, or_false, false_or, or_self, if_true, if_false, ite_self, eq_self, Bool.false_eq_true, Bool.true_eq_false]
      exact k _ (by repeat' (first | exact qt_rf | assumption | refine qt_sI ?_ rfl | refine qt_sL ?_ rfl)) rfl rfl
  obtain ⟨r, hr, rfl⟩ := nI_of hj0
  by_cases hok : p + c ≤ n ∧ r + c ≤ n2
  rotate_left
  · refine pairI_q hI 0 (nI 4) (fun Q k => ?_) (fun τ q Q k => ?_)
    · rw [X0]
      simp (disch := first | omega | assumption | exact b2i_or | exact T10 | exact Or.inl rfl | exact Or.inr rfl) only [bPb_pour_75, bPb_pour_87, bPb_pour_98, bPb_pour_101, bPb_pour_113, bPb_pour_116, bPb_pour_121, Tr_row ht hn (e4.trans hl) hp hc, Tr_row hu hn2 (e5.trans hl2) hr hc, hm0, b2i_0, bPb_deny_0, tl_s, not_true_eq_false, not_false_eq_true, and_self, and_true, true_and, and_false, false_and, or_true, true_or, or_false, false_or, or_self, if_true, if_false, ite_self, eq_self, Bool.false_eq_true, Bool.true_eq_false]
      have F := k (sI σ 0 10 (nI 4)) (by repeat' (first | exact qt_rf | assumption | refine qt_sI ?_ rfl | refine qt_sL ?_ rfl)) rfl
      by_cases h1 : p + c ≤ n
      · have h2 : ¬ r + c ≤ n2 := fun q => hok ⟨h1, q⟩
        simpa only [h1, h2, not_true_eq_false, not_false_eq_true, and_self, and_true, true_and, and_false, false_and, or_true, true_or, or_false, false_or, or_self, if_true, if_false, ite_self, eq_self, Bool.false_eq_true, Bool.true_eq_false] using F
      · simpa only [h1, not_true_eq_false, not_false_eq_true, and_self, and_true, true_and, and_false, false_and, or_true, true_or, or_false, false_or, or_self, if_true, if_false, ite_self, eq_self, Bool.false_eq_true, Bool.true_eq_false] using F
    · rw [M1 τ Q (hq τ q) (hq7 τ q)]
      simp (disch := first | omega | assumption | exact b2i_or | exact T10 | exact Or.inl rfl | exact Or.inr rfl) only [bMo_pour_80, bMo_pour_92, bMo_pour_96, bMo_pour_101, bMo_pour_118, bMo_pour_136, bMo_pour_141, hm0, hi0, hj0, bMo_no_0, nI_add, nI_1, pk_mul, mOut_f, nI_clamp, r1, hq τ q, hl, hl2, lg_gt, lg_le, add64, tl_s, not_true_eq_false, not_false_eq_true, and_self, and_true, true_and, and_false, false_and, or_true, true_or, or_false, false_or, or_self, if_true, if_false, ite_self, eq_self, Bool.false_eq_true, Bool.true_eq_false]
      have F := k (sI (sI (sI τ 166 1 0) 166 0 0) 166 0 (nI 4)) (by repeat' (first | exact qt_rf | assumption | refine qt_sI ?_ rfl | refine qt_sL ?_ rfl)) rfl rfl
      by_cases h1 : p + c ≤ n
      · have h2 : ¬ r + c ≤ n2 := fun q => hok ⟨h1, q⟩
        simpa only [h1, h2, not_true_eq_false, not_false_eq_true, and_self, and_true, true_and, and_false, false_and, or_true, true_or, or_false, false_or, or_self, if_true, if_false, ite_self, eq_self, Bool.false_eq_true, Bool.true_eq_false] using F
      · simpa only [h1, not_true_eq_false, not_false_eq_true, and_self, and_true, true_and, and_false, false_and, or_true, true_or, or_false, false_or, or_self, if_true, if_false, ite_self, eq_self, Bool.false_eq_true, Bool.true_eq_false] using F
  obtain ⟨ok1, ok2⟩ := hok
  have hcp : cpOk (nI (t * 60 + p)) (nI (u * 60 + r)) (nI c) 240 240 = true := by
    have g1 : t * 60 + p + c ≤ 240 := by omega
    have g2 : u * 60 + r + c ≤ 240 := by omega
    simp [cpOk, nI_pos (show t * 60 + p < 2 ^ 31 by omega), nI_pos (show u * 60 + r < 2 ^ 31 by omega), nI_pos (show c < 2 ^ 31 by omega), nI_clamp (show t * 60 + p < 2 ^ 31 by omega), nI_clamp (show u * 60 + r < 2 ^ 31 by omega), nI_clamp (show c < 2 ^ 31 by omega), g1, g2]
  have hcp' : cpOk (nI t * nI 60 + nI p) (nI u * nI 60 + nI r) (nI c) 240 240 = true := by rw [pk_mul, nI_add, pk_mul, nI_add]; exact hcp
  unfold pairI
  rw [X0]
  simp (disch := first | omega | assumption | exact b2i_or | exact T10 | exact Or.inl rfl | exact Or.inr rfl) only [bPb_pour_75, bPb_pour_87, bPb_pour_98, bPb_pour_101, bPb_pour_113, bPb_pour_122, bPb_pour_136, bPb_pour_140, bTr_move_0, bTr_move_8, bTr_move_11, bTr_move_20, bTr_move_23, bTr_move_49, Tr_row ht hn (e4.trans hl) hp hc, Tr_row hu hn2 (e5.trans hl2) hr hc, hm0, b2i_0, ok1, ok2, pk_mul, nI_add, nI_clamp, bPb_grant_0, tl_s, tl_n, not_true_eq_false, not_false_eq_true, and_self, and_true, true_and, and_false, false_and, or_true, true_or, or_false, false_or, or_self, if_true, if_false, ite_self, eq_self, Bool.false_eq_true, Bool.true_eq_false]
  refine ⟨1, rfl, ?_⟩
  rw [M1 (sI (cpL σ 2 2 (t * 60 + p) (u * 60 + r) c) 0 10 0) _ rfl rfl]
  have fin : ∀ τ, qt (fun o _ => o == 169) (sI (sI (sI (cpL σ 2 2 (t * 60 + p) (u * 60 + r) c) 0 10 0) 166 1 0) 166 0 0) τ → τ.2 169 = va_cpy (σ.2 169) (σ.2 169) (60 * t + p) (60 * u + r) c → (some (Value.int 1) = some (Value.int 1) ∧ Inv τ) := by
    intro τ q hτ
    have q0 : qt STr σ (cpL σ 2 2 (t * 60 + p) (u * 60 + r) c) := fun o k h0 => by
      have ho : o ≠ 2 := fun e => by subst e; simp [STr] at h0
      exact ⟨rfl, congrFun (cpL_2 ho) k⟩
    have q1 : qt STr σ τ := qt_tr (qt_sI (qt_sI (qt_sI q0 rfl) rfl) rfl) (qt_mono q (fun o k h => by simp only [STr, Bool.or_eq_true]; right; right; exact h))
    · refine ⟨rfl, Inv_Tr hI q1 (by rw [(q 0 10 rfl).1, (q 166 0 rfl).1]; rfl) ⟨?_, ?_, ?_, ?_⟩⟩
      · have e2 : τ.2 2 = va_cpy (σ.2 2) (σ.2 2) (t * 60 + p) (u * 60 + r) c := by
          funext x
          rw [(q 2 x rfl).2]
          exact congrFun (cpL_u (σ := σ) (a := 2) (b := 2) (sp := t * 60 + p) (dp := u * 60 + r) (n := c)) x
        rw [e2, hτ, hR.1, Nat.mul_comm t 60, Nat.mul_comm u 60]
      · funext x; rw [(q 3 x rfl).1, (q 167 x rfl).1]; exact congrFun hR.2.1 x
      · funext x; rw [(q 4 x rfl).1, (q 168 x rfl).1]; exact congrFun hR.2.2.1 x
      · intro x hx; rw [(q 168 x rfl).1]; exact hR.2.2.2 x hx
  simp (disch := first | omega | assumption | exact b2i_or | exact T10 | exact Or.inl rfl | exact Or.inr rfl) only [bMo_pour_80, bMo_pour_92, bMo_pour_96, bMo_pour_101, bMo_pour_118, hm0, hi0, hj0, nI_add, nI_1, pk_mul, mOut_f, nI_clamp, r1, show ∀ τ : mSt, (sI τ 0 10 0).1 168 = τ.1 168 from fun _ => rfl, show (cpL σ 2 2 (t * 60 + p) (u * 60 + r) c).1 168 = σ.1 168 from rfl, hl, hl2, lg_gt, lg_le, add64, ok1, ok2, not_true_eq_false, not_false_eq_true, and_self, and_true, true_and, and_false, false_and, or_true, true_or, or_false, false_or, or_self, if_true, if_false, ite_self, eq_self, Bool.false_eq_true, Bool.true_eq_false]
  by_cases hrp : r ≤ p
  · simp (disch := first | omega | assumption | exact b2i_or | exact T10 | exact Or.inl rfl | exact Or.inr rfl) only [bMo_pour_142, bMo_pour_152, bMo_pour_153, nI_le, not_true_eq_false, not_false_eq_true, and_self, and_true, true_and, and_false, false_and, or_true, true_or, or_false, false_or, or_self, if_true, if_false, ite_self, eq_self, Bool.false_eq_true, Bool.true_eq_false]
    rw [show ([Value.ref 166, .int (nI t), .int (nI p), .int (nI u), .int (nI r), .int (nI c), .int 0, .int 0, uu] : List Value) = [.ref 166, .int (nI t), .int (nI p), .int (nI u), .int (nI r), .int (nI c), .int 0, .int (nI 0), uu] from rfl]
    refine Mo_pour_f (f := σ.2 169) (u8 := uu) ht hu (by omega) (by omega) (by omega) c 0 _ _ (by omega) ?_ (fun τ q e => by simpa only [not_true_eq_false, not_false_eq_true, and_self, and_true, true_and, and_false, false_and, or_true, true_or, or_false, false_or, or_self, if_true, if_false, ite_self, eq_self, Bool.false_eq_true, Bool.true_eq_false] using fin τ q e)
    funext x
    rw [pk_cpy_out (by omega)]
    rfl
  · simp (disch := first | omega | assumption | exact b2i_or | exact T10 | exact Or.inl rfl | exact Or.inr rfl) only [bMo_pour_142, bMo_pour_148, bMo_pour_153, nI_ge (show p < r by omega) hr, not_true_eq_false, not_false_eq_true, and_self, and_true, true_and, and_false, false_and, or_true, true_or, or_false, false_or, or_self, if_true, if_false, ite_self, eq_self, Bool.false_eq_true, Bool.true_eq_false]
    rw [show ([Value.ref 166, .int (nI t), .int (nI p), .int (nI u), .int (nI r), .int (nI c), .int 1, .int 0, uu] : List Value) = [.ref 166, .int (nI t), .int (nI p), .int (nI u), .int (nI r), .int (nI c), .int 1, .int (nI 0), uu] from rfl]
    refine Mo_pour_r (f := σ.2 169) ht hu (by omega) (by omega) (by omega) c 0 _ _ (by omega) ?_ (fun τ q e => by simpa only [not_true_eq_false, not_false_eq_true, and_self, and_true, true_and, and_false, false_and, or_true, true_or, or_false, false_or, or_self, if_true, if_false, ite_self, eq_self, Bool.false_eq_true, Bool.true_eq_false] using fin τ q e)
    funext x
    rw [pk_cpy_out (by omega)]
    rfl
