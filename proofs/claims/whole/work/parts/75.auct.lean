/-! auction -/
theorem Tr_atD {E : mEn} {d : Nat} {σ : mSt} {Q : mPost} {t n i : Nat} (ht : t < 4) (hn : n ≤ 60) (h : σ.1 4 t = nI n) (hi : i < n) : WP E (d + 4) mTr_at 0 [.ref 1, .int (nI t), .int (nI i)] [] σ Q = Q (some (.long (σ.2 2 (60 * t + i)))) σ := by
  rw [bTr_at_0, Tr_row1 ht hn h, tl_s, bTr_at_7, b2i_t (mOut_f hi (by omega)), if_neg i10, bTr_at_10, pk_mul, nI_add, mOut_f (by omega) (by omega), nI_clamp (by omega), if_neg (by decide), bTr_at_25, Nat.mul_comm t 60]
theorem Mo_num {E : mEn} {d : Nat} {σ : mSt} {Q : mPost} {t i : Nat} (ht : t < 4) (hi : i < 60) : WP E d mMo_numberOf 0 [.ref 166, .int (nI t), .int (nI i)] [] σ Q = Q (some (.long (σ.2 169 (60 * t + i)))) σ := by
  rw [bMo_numberOf_0, pk_mul, nI_add, mOut_f (by omega) (by omega), nI_clamp (by omega), if_neg (by decide)]
theorem ite_lgl {x y : Int64} {A B : Prop} : (if lg_cmp x y < 0 then A else B) = if x < y then A else B := by simp only [lg_lt]
theorem ite_lgg {x y : Int64} {A B : Prop} : (if lg_cmp x y ≤ 0 then A else B) = if ¬ y < x then A else B := by simp only [lg_le]
/-- all of the first m numbers lie from 0 to most -/
abbrev awP (v : Nat → Int64) (most : Int64) (m : Nat) : Prop := ∀ i, i < m → ¬ v i < 0 ∧ ¬ most < v i
theorem Tr_all_loop {E : mEn} {d : Nat} {σ : mSt} {Q : mPost} {t n m : Nat} {most : Int64} {v : Nat → Int64} (ht : t < 4) (hn : n ≤ 60) (h : σ.1 4 t = nI n) (hm : m ≤ n) (hv : ∀ i, i < n → σ.2 2 (60 * t + i) = v i) : ∀ (j k : Nat), k + j = m → awP v most k → WP E (d + 5) mTr_allWithin 3 [.ref 1, .int (nI t), .int (nI m), .long most, uu, .int (nI k)] [] σ Q = Q (some (.int (b2i (awP v most m)))) σ
  | 0, k, e, g => by
    have e' : k = m := by omega
    subst e'
    rw [bTr_allWithin_3, if_pos (Int32.le_refl _), bTr_allWithin_48, b2i_t g]
  | j + 1, k, e, g => by
    rw [bTr_allWithin_3, if_neg (nI_ge (by omega) (by omega)), bTr_allWithin_9, if_neg (nI_ge (by omega) (by omega)), bTr_allWithin_16, Tr_atD ht hn h (show k < n by omega), tl_s, bTr_allWithin_23, ite_lgl, hv k (by omega)]
    by_cases z : v k < 0
    · rw [if_pos z, bTr_allWithin_40, b2i_f (fun g => (g k (by omega)).1 z)]
    rw [if_neg z, bTr_allWithin_28, Tr_atD ht hn h (show k < n by omega), tl_s, bTr_allWithin_35, ite_lgg, hv k (by omega)]
    by_cases y : most < v k
    · rw [ite_nn y, bTr_allWithin_40, b2i_f (fun g => (g k (by omega)).2 y)]
    rw [if_pos y, bTr_allWithin_42, nI_1]
    refine Tr_all_loop ht hn h hm hv j (k + 1) (by omega) (fun i hi => ?_)
    by_cases x : i = k
    · subst x; exact ⟨z, y⟩
    · exact g i (by omega)
theorem Tr_all {E : mEn} {d : Nat} {σ : mSt} {Q : mPost} {t n m : Nat} {most : Int64} {v : Nat → Int64} {u : Value} (ht : t < 4) (hn : n ≤ 60) (h : σ.1 4 t = nI n) (hm : m ≤ n) (hv : ∀ i, i < n → σ.2 2 (60 * t + i) = v i) : WP E (d + 5) mTr_allWithin 0 [.ref 1, .int (nI t), .int (nI m), .long most, uu, u] [] σ Q = Q (some (.int (b2i (awP v most m)))) σ := by
  rw [bTr_allWithin_0]
  exact Tr_all_loop ht hn h hm hv m 0 (by omega) (fun i hi => absurd hi (by omega))
/-- the place of the most, but for one -/
def pmF (v : Nat → Int64) (ex : Int32) : Nat → Nat → Int32 → Int32
  | 0, _, b => b
  | j + 1, k, b => pmF v ex j (k + 1) (if ¬ nI k = ex ∧ (b = -1 ∨ v b.toNatClampNeg < v k) then nI k else b)
theorem pmF_b {v : Nat → Int64} {ex : Int32} : ∀ (j k : Nat) (b : Int32), k + j < 2 ^ 31 → (b = -1 ∨ ∃ y, y < k ∧ b = nI y) → pmF v ex j k b = -1 ∨ ∃ y, y < k + j ∧ pmF v ex j k b = nI y
  | 0, k, b, _, h => h
  | j + 1, k, b, hk, h => by
    rw [pmF]
    have := pmF_b (v := v) (ex := ex) j (k + 1) (if ¬ nI k = ex ∧ (b = -1 ∨ v b.toNatClampNeg < v k) then nI k else b) (by omega) (by
      split
      · exact Or.inr ⟨k, by omega, rfl⟩
      · rcases h with h | ⟨y, h1, h2⟩
        · exact Or.inl h
        · exact Or.inr ⟨y, by omega, h2⟩)
    rcases this with h | ⟨y, h1, h2⟩
    · exact Or.inl h
    · exact Or.inr ⟨y, by omega, h2⟩
theorem Tr_most_loop {E : mEn} {d : Nat} {σ : mSt} {Q : mPost} {t n m : Nat} {ex : Int32} {v : Nat → Int64} (ht : t < 4) (hn : n ≤ 60) (h : σ.1 4 t = nI n) (hm : m ≤ n) (hv : ∀ i, i < n → σ.2 2 (60 * t + i) = v i) : ∀ (j k : Nat) (b : Int32), k + j = m → (b = -1 ∨ ∃ y, y < k ∧ b = nI y) → WP E (d + 5) mTr_placeOfMost 6 [.ref 1, .int (nI t), .int (nI m), .int ex, .int b, .int (nI k)] [] σ Q = Q (some (.int (pmF v ex j k b))) σ
  | 0, k, b, e, hb => by
    have e' : k = m := by omega
    subst e'
    rw [bTr_placeOfMost_6, if_pos (Int32.le_refl _), bTr_placeOfMost_59, pmF]
  | j + 1, k, b, e, hb => by
    have IH := fun b => Tr_most_loop (E := E) (d := d) (Q := Q) (ex := ex) ht hn h hm hv j (k + 1) b (by omega)
    have hb' : b = -1 ∨ ∃ y, y < k + 1 ∧ b = nI y := hb.elim Or.inl (fun ⟨y, h1, h2⟩ => Or.inr ⟨y, by omega, h2⟩)
    rw [bTr_placeOfMost_6, if_neg (nI_ge (by omega) (by omega)), bTr_placeOfMost_12, if_neg (nI_ge (by omega) (by omega)), bTr_placeOfMost_19, pmF]
    by_cases z : nI k = ex
    · rw [if_pos z, if_neg (fun g => g.1 z), bTr_placeOfMost_53, nI_1]
      exact IH _ hb'
    rw [if_neg z, bTr_placeOfMost_25]
    by_cases y : b = -1
    · rw [if_pos y, if_pos ⟨z, Or.inl y⟩, bTr_placeOfMost_49, bTr_placeOfMost_53, nI_1]
      exact IH _ (Or.inr ⟨k, by omega, rfl⟩)
    obtain ⟨x, hx, rfl⟩ := hb.resolve_left y
    rw [if_neg y, bTr_placeOfMost_31, Tr_atD ht hn h (show k < n by omega), tl_s, bTr_placeOfMost_38, Tr_atD ht hn h (show x < n by omega), tl_s, bTr_placeOfMost_45, ite_lgg, hv k (by omega), hv x (by omega), nI_clamp (by omega)]
    by_cases g : v x < v k
    · rw [ite_nn g, if_pos ⟨z, Or.inr g⟩, bTr_placeOfMost_49, bTr_placeOfMost_53, nI_1]
      exact IH _ (Or.inr ⟨k, by omega, rfl⟩)
    · rw [if_pos g, if_neg (fun q => q.2.elim y g), bTr_placeOfMost_53, nI_1]
      exact IH _ hb'
theorem Tr_most {E : mEn} {d : Nat} {σ : mSt} {Q : mPost} {t n m : Nat} {ex : Int32} {v : Nat → Int64} {u1 u2 : Value} (ht : t < 4) (hn : n ≤ 60) (h : σ.1 4 t = nI n) (hm : m ≤ n) (hv : ∀ i, i < n → σ.2 2 (60 * t + i) = v i) : WP E (d + 5) mTr_placeOfMost 0 [.ref 1, .int (nI t), .int (nI m), .int ex, u1, u2] [] σ Q = Q (some (.int (pmF v ex m 0 (-1)))) σ := by
  rw [bTr_placeOfMost_0]
  exact Tr_most_loop ht hn h hm hv m 0 (-1) (by omega) (Or.inl rfl)
theorem Mo_auc_1 {E : mEn} {d : Nat} {σ : mSt} {Q : mPost} {t m : Nat} {w : Int32} {v : Nat → Int64} {u5 u6 u7 : Value} (ht : t < 4) (hm : m ≤ 8) (hv : ∀ i, i < 60 → σ.2 169 (60 * t + i) = v i) (h0 : ¬ awP v 9999 m → Q (some (.int (-1))) (sI σ 166 0 (nI 5))) (h1 : awP v 9999 m → ∀ a4, WP E (d + 1) mMo_auction 121 [.ref 166, .int (nI t), .int (nI m), .int w, .int a4, u5, u6, u7] [] σ Q) : ∀ (j k : Nat), k + j = m → awP v 9999 k → WP E (d + 1) mMo_auction 86 [.ref 166, .int (nI t), .int (nI m), .int w, .int (nI k), u5, u6, u7] [] σ Q
  | 0, k, e, g => by
    have e' : k = m := by omega
    subst e'
    rw [bMo_auction_86, if_pos (Int32.le_refl _)]
    exact h1 g _
  | j + 1, k, e, g => by
    rw [bMo_auction_86, if_neg (nI_ge (by omega) (by omega)), bMo_auction_92, Mo_num ht (by omega), tl_s, bMo_auction_99, Mo_isIn, tl_s, bMo_auction_106, hv k (by omega)]
    by_cases z : ¬ v k < 0 ∧ ¬ 9999 < v k
    · rw [b2i_t z, if_pos i10, bMo_auction_115, nI_1]
      refine Mo_auc_1 ht hm hv h0 h1 j (k + 1) (by omega) (fun i hi => ?_)
      by_cases x : i = k
      · subst x; exact z
      · exact g i (by omega)
    · rw [b2i_f z, ite_nn rfl, bMo_auction_109, bMo_refuse_0, tl_s, bMo_auction_114]
      exact h0 (fun g => z (g k (by omega)))
theorem Mo_auc_2 {E : mEn} {d : Nat} {σ : mSt} {Q : mPost} {t m : Nat} {w : Int32} {v : Nat → Int64} {u6 u7 : Value} (ht : t < 4) (hm : m ≤ 8) (hv : ∀ i, i < 60 → σ.2 169 (60 * t + i) = v i) : ∀ (j k y : Nat), k + j = m → y < k → (∀ a5, WP E (d + 1) mMo_auction 161 [.ref 166, .int (nI t), .int (nI m), .int w, .int (pmF v (-1) j k (nI y)), .int a5, u6, u7] [] σ Q) → WP E (d + 1) mMo_auction 127 [.ref 166, .int (nI t), .int (nI m), .int w, .int (nI y), .int (nI k), u6, u7] [] σ Q
  | 0, k, y, e, hy, hQ => by
    have e' : k = m := by omega
    subst e'
    rw [bMo_auction_127, if_pos (Int32.le_refl _)]
    exact hQ _
  | j + 1, k, y, e, hy, hQ => by
    rw [bMo_auction_127, if_neg (nI_ge (by omega) (by omega)), bMo_auction_133, Mo_num ht (by omega), tl_s, bMo_auction_140, Mo_num ht (by omega), tl_s, bMo_auction_147, ite_lgg, hv k (by omega), hv y (by omega)]
    rw [pmF, nI_clamp (by omega)] at hQ
    by_cases g : v y < v k
    · rw [if_pos ⟨nI_m1 (by omega), Or.inr g⟩] at hQ
      rw [ite_nn g, bMo_auction_151, bMo_auction_155, nI_1]
      exact Mo_auc_2 ht hm hv j (k + 1) k (by omega) (by omega) hQ
    · rw [if_neg (fun q => q.2.elim (nI_m1 (by omega)) g)] at hQ
      rw [if_pos g, bMo_auction_155, nI_1]
      exact Mo_auc_2 ht hm hv j (k + 1) y (by omega) (by omega) hQ
/-- the next bid -/
def nxF (v : Nat → Int64) (ex : Int32) : Nat → Nat → Int64 → Int64
  | 0, _, n => n
  | j + 1, k, n => nxF v ex j (k + 1) (if nI k = ex then n else if v k < n then n else v k)
theorem Mo_auc_3 {E : mEn} {d : Nat} {σ : mSt} {Q : mPost} {t m : Nat} {w b : Int32} {v : Nat → Int64} (ht : t < 4) (hm : m ≤ 8) (hv : ∀ i, i < 60 → σ.2 169 (60 * t + i) = v i) : ∀ (j k : Nat) (n : Int64), k + j = m → (∀ a7, WP E (d + 1) mMo_auction 219 [.ref 166, .int (nI t), .int (nI m), .int w, .int b, .long (nxF v b j k n), uu, .int a7] [] σ Q) → WP E (d + 1) mMo_auction 186 [.ref 166, .int (nI t), .int (nI m), .int w, .int b, .long n, uu, .int (nI k)] [] σ Q
  | 0, k, n, e, hQ => by
    have e' : k = m := by omega
    subst e'
    rw [bMo_auction_186, if_pos (Int32.le_refl _)]
    exact hQ _
  | j + 1, k, n, e, hQ => by
    rw [bMo_auction_186, if_neg (nI_ge (by omega) (by omega)), bMo_auction_192]
    rw [nxF] at hQ
    by_cases z : nI k = b
    · rw [if_pos z] at hQ
      rw [if_pos z, bMo_auction_213, nI_1]
      exact Mo_auc_3 ht hm hv j (k + 1) n (by omega) hQ
    · rw [if_neg z] at hQ
      rw [if_neg z, bMo_auction_199, Mo_num ht (by omega), tl_s, bMo_auction_208, bMo_auction_213, nI_1, hv k (by omega)]
      exact Mo_auc_3 ht hm hv j (k + 1) _ (by omega) hQ
theorem nx_pm {v : Nat → Int64} {ex : Int32} {m : Nat} (hm : m < 2 ^ 31) (hv : ∀ i, i < m → ¬ v i < 0) : ∀ (j k : Nat) (b : Int32) (n : Int64), k + j = m → ((b = -1 ∧ n = 0) ∨ ∃ y, y < k ∧ b = nI y ∧ v y = n) → ((pmF v ex j k b = -1 ∧ nxF v ex j k n = 0) ∨ ∃ y, y < m ∧ pmF v ex j k b = nI y ∧ v y = nxF v ex j k n)
  | 0, k, b, n, e, h => by
    rw [pmF, nxF]
    rcases h with h | ⟨y, h1, h2⟩
    · exact Or.inl h
    · exact Or.inr ⟨y, by omega, h2⟩
  | j + 1, k, b, n, e, h => by
    rw [pmF, nxF]
    by_cases z : nI k = ex
    · rw [if_neg (fun g => g.1 z), if_pos z]
      refine nx_pm hm hv j (k + 1) b n (by omega) (h.elim Or.inl (fun ⟨y, h1, h2⟩ => Or.inr ⟨y, by omega, h2⟩))
    · rw [if_neg z]
      rcases h with ⟨h1, h2⟩ | ⟨y, h1, h2, h3⟩
      · rw [if_pos ⟨z, Or.inl h1⟩, h2, if_neg (hv k (by omega))]
        exact nx_pm hm hv j (k + 1) _ _ (by omega) (Or.inr ⟨k, by omega, rfl, rfl⟩)
      · subst h2
        rw [nI_clamp (by omega), h3]
        by_cases g : n < v k
        · rw [if_pos ⟨z, Or.inr g⟩, if_neg (Int64.not_lt.mpr (Int64.le_of_lt g))]
          exact nx_pm hm hv j (k + 1) _ _ (by omega) (Or.inr ⟨k, by omega, rfl, rfl⟩)
        · rw [if_neg (fun q => q.2.elim (nI_m1 (by omega)) g)]
          by_cases g2 : v k < n
          · rw [if_pos g2]
            exact nx_pm hm hv j (k + 1) _ _ (by omega) (Or.inr ⟨y, by omega, rfl, h3⟩)
          · rw [if_neg g2, show v k = n from Int64.le_antisymm (Int64.not_lt.mp g) (Int64.not_lt.mp g2)]
            exact nx_pm hm hv j (k + 1) _ _ (by omega) (Or.inr ⟨y, by omega, rfl, h3⟩)
theorem isTr {a : Int32} : (¬ a.toInt64 < 0 ∧ ¬ (3 : Int64) < a.toInt64) ↔ mOut a 4 = false := isIn0 (n := 4) (by omega)
theorem Mo_isTray {E : mEn} {d : Nat} {σ : mSt} {Q : mPost} {a : Int32} : WP E (d + 1) mMo_isTray 0 [.ref 166, .int a] [] σ Q = Q (some (.int (b2i (mOut a 4 = false)))) σ := by
  rw [bMo_isTray_0, Mo_isIn, tl_s, bMo_isTray_9 b2i_or, b2i_congr isTr]
theorem P_auction {E : mEn} {d : Nat} {σ : mSt} {a m w : Int32} {u1 u2 u3 u4 u5 u6 : Value} (hI : Inv σ) : pairI E (d + 6) mPb_auction mMo_auction [.ref 0, .int a, .int m, .int w, u1, u2] [.ref 166, .int a, .int m, .int w, u3, u4, u5, u6] σ := by
  have hR : RTr σ := hI.2.2.2.2.2.1
  by_cases ha : mOut a 4 = false
  rotate_left
  · refine pairI_q hI (-1) 1 (fun Q k => ?_) (fun τ q Q k => ?_)
    · rw [bPb_auction_0, Tr_ex, tl_s, bPb_auction_8, b2i_f ha, ite_nn rfl, bPb_auction_11, bPb_refuse_0, tl_s, bPb_auction_16]
      exact k _ (by repeat' (first | exact qt_rf | assumption | refine qt_sI ?_ rfl | refine qt_sL ?_ rfl)) rfl
    · rw [bMo_auction_0, Mo_isTray, tl_s, bMo_auction_15, b2i_f ha, ite_nn rfl, bMo_auction_18, bMo_refuse_0, tl_s, bMo_auction_23]
      exact k _ (by repeat' (first | exact qt_rf | assumption | refine qt_sI ?_ rfl | refine qt_sL ?_ rfl)) rfl rfl
  have ha' := ha
  obtain ⟨t, ht, rfl⟩ := mOut_n ha
  have e4 := RTr_at hR ht
  have hq : ∀ τ : mSt, qt SQ σ τ → (sI (sI τ 166 1 0) 166 0 0).1 168 = σ.1 168 := fun τ q => funext fun k => (q 168 k rfl).1
  have X0 : ∀ Q : mPost, WP E (d + 6) mPb_auction 0 [.ref 0, .int (nI t), .int m, .int w, u1, u2] [] σ Q = WP E (d + 6) mPb_auction 17 [.ref 0, .int (nI t), .int m, .int w, u1, u2] [] σ Q := fun Q => by
    rw [bPb_auction_0, Tr_ex, tl_s, bPb_auction_8, b2i_t ha', if_pos i10]
  have Y0 : ∀ (τ : mSt) (Q : mPost), WP E (d + 6) mMo_auction 0 [.ref 166, .int (nI t), .int m, .int w, u3, u4, u5, u6] [] τ Q = WP E (d + 6) mMo_auction 24 [.ref 166, .int (nI t), .int m, .int w, u3, u4, u5, u6] [] (sI (sI τ 166 1 0) 166 0 0) Q := fun τ Q => by
    rw [bMo_auction_0, Mo_isTray, tl_s, bMo_auction_15, b2i_t ha', if_pos i10]
  rcases hR.2.2.2 t ht with hl | ⟨n, hn, hl⟩
  · refine pairI_q hI (-1) (nI 3) (fun Q k => ?_) (fun τ q Q k => ?_)
    · rw [X0, bPb_auction_17, Tr_missB ht (e4.trans hl), tl_s, bPb_auction_25, if_neg i10, bPb_auction_28, bPb_refuse_0, tl_s, bPb_auction_33]
      exact k _ (by repeat' (first | exact qt_rf | assumption | refine qt_sI ?_ rfl | refine qt_sL ?_ rfl)) rfl
    · rw [Y0, bMo_auction_24, mOut_f ht (by omega), nI_clamp (by omega), hq τ q, hl, if_neg (by decide), if_neg (by decide), bMo_auction_33, bMo_refuse_0, tl_s, bMo_auction_38]
      exact k _ (by repeat' (first | exact qt_rf | assumption | refine qt_sI ?_ rfl | refine qt_sL ?_ rfl)) rfl rfl
  have X1 : ∀ Q : mPost, WP E (d + 6) mPb_auction 0 [.ref 0, .int (nI t), .int m, .int w, u1, u2] [] σ Q = if m ≤ nI n then WP E (d + 6) mPb_auction 52 [.ref 0, .int (nI t), .int m, .int w, u1, u2] [] σ Q else WP E (d + 6) mPb_auction 46 [.ref 0, .int (nI t), .int m, .int w, u1, u2] [] σ Q := fun Q => by
    rw [X0, bPb_auction_17, Tr_missC ht hn (e4.trans hl), tl_s, bPb_auction_25, if_pos rfl, bPb_auction_34, Tr_len ht hn (e4.trans hl), tl_s, bPb_auction_43]
  have Y1 : ∀ (τ : mSt), qt SQ σ τ → ∀ Q : mPost, WP E (d + 6) mMo_auction 0 [.ref 166, .int (nI t), .int m, .int w, u3, u4, u5, u6] [] τ Q = if m ≤ nI n then WP E (d + 6) mMo_auction 55 [.ref 166, .int (nI t), .int m, .int w, u3, u4, u5, u6] [] (sI (sI τ 166 1 0) 166 0 0) Q else WP E (d + 6) mMo_auction 49 [.ref 166, .int (nI t), .int m, .int w, u3, u4, u5, u6] [] (sI (sI τ 166 1 0) 166 0 0) Q := fun τ q Q => by
    rw [Y0, bMo_auction_24, mOut_f ht (by omega), nI_clamp (by omega), hq τ q, hl, if_neg (by decide), if_pos (nI_pos' (by omega)), bMo_auction_39, mOut_f ht (by omega), nI_clamp (by omega), hq τ q, hl, if_neg (by decide)]
  by_cases hmn : m ≤ nI n
  rotate_left
  · refine pairI_q hI (-1) (nI 4) (fun Q k => ?_) (fun τ q Q k => ?_)
    · rw [X1, if_neg hmn, bPb_auction_46, bPb_refuse_0, tl_s, bPb_auction_51]
      exact k _ (by repeat' (first | exact qt_rf | assumption | refine qt_sI ?_ rfl | refine qt_sL ?_ rfl)) rfl
    · rw [Y1 τ q, if_neg hmn, bMo_auction_49, bMo_refuse_0, tl_s, bMo_auction_54]
      exact k _ (by repeat' (first | exact qt_rf | assumption | refine qt_sI ?_ rfl | refine qt_sL ?_ rfl)) rfl rfl
  have R5 : ∀ Q : mPost, (∀ τ, qt SQ σ τ → τ.1 0 10 = nI 5 → Q (some (.int (-1))) τ) → ∀ m w : Int32, WP E (d + 6) mPb_auction 72 [.ref 0, .int (nI t), .int m, .int w, u1, u2] [] σ Q := fun Q k m w => by
    rw [bPb_auction_72, bPb_refuse_0, tl_s, bPb_auction_77]
    exact k _ (by repeat' (first | exact qt_rf | assumption | refine qt_sI ?_ rfl | refine qt_sL ?_ rfl)) rfl
  have S5 : ∀ (τ : mSt) (Q : mPost), (∀ υ, qt SQ τ υ → υ.1 166 0 = nI 5 → υ.1 0 10 = τ.1 0 10 → Q (some (.int (-1))) υ) → ∀ m w : Int32, WP E (d + 6) mMo_auction 77 [.ref 166, .int (nI t), .int m, .int w, u3, u4, u5, u6] [] (sI (sI τ 166 1 0) 166 0 0) Q := fun τ Q k m w => by
    rw [bMo_auction_77, bMo_refuse_0, tl_s, bMo_auction_82]
    exact k _ (by repeat' (first | exact qt_rf | assumption | refine qt_sI ?_ rfl | refine qt_sL ?_ rfl)) rfl rfl
  rcases sw_cs m 1 8 with ⟨m', m1, m2, rfl⟩ | hne
  rotate_left
  · refine pairI_q hI (-1) (nI 5) (fun Q k => ?_) (fun τ q Q k => ?_)
    · rw [X1, if_pos hmn, bPb_auction_52, bPb_auction_57, rngA (l' := 1) (h' := nI 8) (lo := 1) (hi := 8) rfl rfl (by omega) (by omega) hne]
      exact R5 Q k _ _
    · rw [Y1 τ q, if_pos hmn, bMo_auction_55, Mo_isIn, tl_s, bMo_auction_64, b2i_f (isIn_f (l6 := 1) (h6 := 8) (lo := 1) (hi := 8) rfl rfl (by omega) (by omega) hne), if_pos rfl]
      exact S5 τ Q k _ _
  have hmn' : m' ≤ n := (nI_leI (by omega) (by omega)).mp hmn
  rcases sw_cs w 0 1 with ⟨w', w1, w2, rfl⟩ | hne
  rotate_left
  · refine pairI_q hI (-1) (nI 5) (fun Q k => ?_) (fun τ q Q k => ?_)
    · rw [X1, if_pos hmn, bPb_auction_52, bPb_auction_57, rngB (l' := 1) (h' := nI 8) (lo := 1) (hi := 8) rfl rfl (by omega) m1 m2, bPb_auction_63, bPb_auction_67, rngC (l' := 0) (h' := 1) (lo := 0) (hi := 1) rfl rfl (by omega) (by omega) hne]
      exact R5 Q k _ _
    · rw [Y1 τ q, if_pos hmn, bMo_auction_55, Mo_isIn, tl_s, bMo_auction_64, b2i_t (isIn_t (l6 := 1) (h6 := 8) (lo := 1) (hi := 8) rfl rfl (by omega) m1 m2), if_neg i10, bMo_auction_67, Mo_isIn, tl_s, bMo_auction_74, b2i_f (isIn_f (l6 := 0) (h6 := 1) (lo := 0) (hi := 1) rfl rfl (by omega) (by omega) hne), ite_nn rfl]
      exact S5 τ Q k _ _
  obtain ⟨V, hV⟩ : ∃ V : Nat → Int64, V = fun i => σ.2 169 (60 * t + i) := ⟨_, rfl⟩
  have hv : ∀ i, i < n → σ.2 2 (60 * t + i) = σ.2 169 (60 * t + i) := fun i _ => by rw [hR.1]
  have hw : ∀ τ : mSt, qt SQ σ τ → ∀ i, i < 60 → (sI (sI τ 166 1 0) 166 0 0).2 169 (60 * t + i) = σ.2 169 (60 * t + i) := fun τ q i _ => (q 169 _ rfl).2
  have hw' : ∀ τ : mSt, qt SQ σ τ → ∀ i, i < 60 → (sI (sI τ 166 1 0) 166 0 0).2 169 (60 * t + i) = V i := fun τ q i h => by rw [hw τ q i h, hV]
  have hv' : ∀ i, i < n → σ.2 2 (60 * t + i) = V i := fun i h => by rw [hv i h, hV]
  have X2 : ∀ Q : mPost, WP E (d + 6) mPb_auction 0 [.ref 0, .int (nI t), .int (nI m'), .int (nI w'), u1, u2] [] σ Q = WP E (d + 6) mPb_auction 90 [.ref 0, .int (nI t), .int (nI m'), .int (nI w'), u1, u2] [.int (b2i (awP V 9999 m'))] σ Q := fun Q => by
    rw [X1, if_pos hmn, bPb_auction_52, bPb_auction_57, rngB (l' := 1) (h' := nI 8) (lo := 1) (hi := 8) rfl rfl (by omega) m1 m2, bPb_auction_63, bPb_auction_67, rngD (l' := 0) (h' := 1) (lo := 0) (hi := 1) rfl rfl (by omega) w1 w2, bPb_auction_78, Tr_all ht hn (e4.trans hl) hmn' hv', tl_s]
  have Y2 : ∀ (τ : mSt), qt SQ σ τ → ∀ Q : mPost, WP E (d + 6) mMo_auction 0 [.ref 166, .int (nI t), .int (nI m'), .int (nI w'), u3, u4, u5, u6] [] τ Q = WP E (d + 6) mMo_auction 86 [.ref 166, .int (nI t), .int (nI m'), .int (nI w'), .int (nI 0), u4, u5, u6] [] (sI (sI τ 166 1 0) 166 0 0) Q := fun τ q Q => by
    rw [Y1 τ q, if_pos hmn, bMo_auction_55, Mo_isIn, tl_s, bMo_auction_64, b2i_t (isIn_t (l6 := 1) (h6 := 8) (lo := 1) (hi := 8) rfl rfl (by omega) m1 m2), if_neg i10, bMo_auction_67, Mo_isIn, tl_s, bMo_auction_74, b2i_t (isIn_t (l6 := 0) (h6 := 1) (lo := 0) (hi := 1) rfl rfl (by omega) w1 w2), if_pos i10, bMo_auction_83]
    rfl
  by_cases aw : awP V 9999 m'
  rotate_left
  · refine pairI_q hI (-1) (nI 5) (fun Q k => ?_) (fun τ q Q k => ?_)
    · rw [X2, bPb_auction_90, b2i_f aw, ite_nn rfl, bPb_auction_93, bPb_refuse_0, tl_s, bPb_auction_98]
      exact k _ (by repeat' (first | exact qt_rf | assumption | refine qt_sI ?_ rfl | refine qt_sL ?_ rfl)) rfl
    · rw [Y2 τ q]
      exact Mo_auc_1 ht m2 (hw' τ q) (fun _ => k _ (by repeat' (first | exact qt_rf | assumption | refine qt_sI ?_ rfl | refine qt_sL ?_ rfl)) rfl rfl) (fun g => absurd g aw) m' 0 (by omega) (fun i hi => absurd hi (by omega))
  obtain ⟨p, rfl⟩ : ∃ p, m' = p + 1 := ⟨m' - 1, by omega⟩
  have ew : pmF V (-1) (p + 1) 0 (-1) = pmF V (-1) p 1 (nI 0) := by rw [pmF, if_pos ⟨nI_m1 (by omega), Or.inl rfl⟩]
  obtain ⟨y, hy, ey⟩ : ∃ y, y < 1 + p ∧ pmF V (-1) p 1 (nI 0) = nI y := by
    rcases pmF_b (v := V) (ex := -1) p 1 (nI 0) (by omega) (Or.inr ⟨0, by omega, rfl⟩) with h | h
    · exfalso
      have st : ∀ (j k y : Nat), k + j < 2 ^ 31 → y < k → pmF V (-1) j k (nI y) ≠ -1 := by
        intro j
        induction j with
        | zero => intro k y h1 h2; rw [pmF]; exact nI_m1 (by omega)
        | succ j ih =>
          intro k y h1 h2
          rw [pmF]
          split
          · exact ih (k + 1) k (by omega) (by omega)
          · exact ih (k + 1) y (by omega) (by omega)
      exact st p 1 0 (by omega) (by omega) h
    · exact h
  have X3 : ∀ Q : mPost, WP E (d + 6) mPb_auction 0 [.ref 0, .int (nI t), .int (nI (p + 1)), .int (nI w'), u1, u2] [] σ Q = if ¬ lg_cmp (V y) 0 = 0 then WP E (d + 6) mPb_auction 133 [.ref 0, .int (nI t), .int (nI (p + 1)), .int (nI w'), .int (nI y), u2] [] σ Q else WP E (d + 6) mPb_auction 126 [.ref 0, .int (nI t), .int (nI (p + 1)), .int (nI w'), .int (nI y), u2] [] σ Q := fun Q => by
    rw [X2, bPb_auction_90, b2i_t aw, if_pos i10, bPb_auction_99, Tr_most ht hn (e4.trans hl) hmn' hv', tl_s, ew, ey, bPb_auction_109, Tr_atD ht hn (e4.trans hl) (show y < n by omega), tl_s, bPb_auction_121, hv' y (by omega)]
  have Y3 : ∀ (τ : mSt), qt SQ σ τ → ∀ Q : mPost, (∀ a5, (if ¬ lg_cmp (V y) 0 = 0 then WP E (d + 6) mMo_auction 180 [.ref 166, .int (nI t), .int (nI (p + 1)), .int (nI w'), .int (nI y), .int a5, u5, u6] [] (sI (sI τ 166 1 0) 166 0 0) Q else WP E (d + 6) mMo_auction 173 [.ref 166, .int (nI t), .int (nI (p + 1)), .int (nI w'), .int (nI y), .int a5, u5, u6] [] (sI (sI τ 166 1 0) 166 0 0) Q)) → WP E (d + 6) mMo_auction 0 [.ref 166, .int (nI t), .int (nI (p + 1)), .int (nI w'), u3, u4, u5, u6] [] τ Q := fun τ q Q k => by
    rw [Y2 τ q]
    refine Mo_auc_1 ht m2 (hw' τ q) (fun g => absurd aw g) (fun _ a4 => ?_) (p + 1) 0 (by omega) (fun i hi => absurd hi (by omega))
    rw [bMo_auction_121]
    refine Mo_auc_2 ht m2 (hw' τ q) p 1 0 (by omega) (by omega) (fun a5 => ?_)
    rw [ey, bMo_auction_161, Mo_num ht (by omega), tl_s, bMo_auction_168, hw' τ q y (by omega)]
    exact k a5
  by_cases z : lg_cmp (V y) 0 = 0
  · refine pairI_q hI (-1) (nI 8) (fun Q k => ?_) (fun τ q Q k => ?_)
    · rw [X3, ite_nn z, bPb_auction_126, bPb_refuse_0, tl_s, bPb_auction_132]
      exact k _ (by repeat' (first | exact qt_rf | assumption | refine qt_sI ?_ rfl | refine qt_sL ?_ rfl)) rfl
    · refine Y3 τ q Q (fun a5 => ?_)
      rw [ite_nn z, bMo_auction_173, bMo_refuse_0, tl_s, bMo_auction_179]
      exact k _ (by repeat' (first | exact qt_rf | assumption | refine qt_sI ?_ rfl | refine qt_sL ?_ rfl)) rfl rfl
  match w', w2 with
  | 0, _ =>
    refine pairI_q hI (nI y) 0 (fun Q k => ?_) (fun τ q Q k => ?_)
    · rw [X3, if_pos z, bPb_auction_133, ite_nn nI_lit0, bPb_auction_137, bPb_answer_0, tl_s, bPb_auction_143]
      exact k _ (by repeat' (first | exact qt_rf | assumption | refine qt_sI ?_ rfl | refine qt_sL ?_ rfl)) rfl
    · refine Y3 τ q Q (fun a5 => ?_)
      rw [if_pos z, bMo_auction_180]
      refine Mo_auc_3 ht m2 (hw' τ q) (p + 1) 0 0 (by omega) (fun a7 => ?_)
      rw [bMo_auction_219, ite_nn nI_lit0, bMo_auction_223, bMo_auction_231]
      exact k _ (by repeat' (first | exact qt_rf | assumption | refine qt_sI ?_ rfl | refine qt_sL ?_ rfl)) rfl rfl
  | 1, _ =>
    have XX := nx_pm (v := V) (ex := nI y) (m := p + 1) (by omega) (fun i hi => (aw i hi).1) (p + 1) 0 (-1) 0 (by omega) (Or.inl ⟨rfl, rfl⟩)
    refine pairI_q hI (nxF V (nI y) (p + 1) 0 0).toInt32 0 (fun Q k => ?_) (fun τ q Q k => ?_)
    · rw [X3, if_pos z, bPb_auction_133, if_pos (by decide), bPb_auction_144, Tr_most ht hn (e4.trans hl) hmn' hv', tl_s, bPb_auction_155]
      rcases XX with ⟨g1, g2⟩ | ⟨x, hx, g1, g2⟩
      · rw [g2] at k
        rw [g1, ite_nn rfl, bPb_auction_164, bPb_auction_179, bPb_answer_0, tl_s, bPb_auction_182]
        exact k _ (by repeat' (first | exact qt_rf | assumption | refine qt_sI ?_ rfl | refine qt_sL ?_ rfl)) rfl
      · rw [g1, if_pos (nI_m1 (by omega)), bPb_auction_168, Tr_atD ht hn (e4.trans hl) (show x < n by omega), tl_s, bPb_auction_178, bPb_auction_179, bPb_answer_0, tl_s, bPb_auction_182, hv' x (by omega), g2]
        exact k _ (by repeat' (first | exact qt_rf | assumption | refine qt_sI ?_ rfl | refine qt_sL ?_ rfl)) rfl
    · refine Y3 τ q Q (fun a5 => ?_)
      rw [if_pos z, bMo_auction_180]
      refine Mo_auc_3 ht m2 (hw' τ q) (p + 1) 0 0 (by omega) (fun a7 => ?_)
      rw [bMo_auction_219, if_pos (by decide), bMo_auction_228, bMo_auction_231]
      exact k _ (by repeat' (first | exact qt_rf | assumption | refine qt_sI ?_ rfl | refine qt_sL ?_ rfl)) rfl rfl
