/-! cuts -/
theorem rngA {a l' h' : Int32} {lo hi : Nat} (h1 : nI lo = l') (h2 : nI hi = h') (hh : hi < 2 ^ 31) (hl : lo < 2 ^ 31) (hne : ∀ k : Nat, lo ≤ k → k ≤ hi → a ≠ nI k) {A B : Prop} : (if a < l' then A else if h' < a then A else B) = A := by
  subst h1; subst h2
  rcases sw_lt hh hne with h | h
  · rw [if_pos (by rw [Int32.lt_iff_toInt_lt, nI_toInt hl]; exact h)]
  · rw [if_pos (c := nI hi < a) (by rw [Int32.lt_iff_toInt_lt, nI_toInt hh]; exact h), ite_self]
theorem rngB {l' h' : Int32} {k lo hi : Nat} (h1 : nI lo = l') (h2 : nI hi = h') (hh : hi < 2 ^ 31) (a1 : lo ≤ k) (a2 : k ≤ hi) {A B : Prop} : (if nI k < l' then A else if h' < nI k then A else B) = B := by
  subst h1; subst h2
  rw [if_neg (nI_nlt a1 (by omega)), if_neg (nI_nlt a2 (by omega))]
theorem rngC {a l' h' : Int32} {lo hi : Nat} (h1 : nI lo = l') (h2 : nI hi = h') (hh : hi < 2 ^ 31) (hl : lo < 2 ^ 31) (hne : ∀ k : Nat, lo ≤ k → k ≤ hi → a ≠ nI k) {A B : Prop} : (if a < l' then A else if a ≤ h' then B else A) = A := by
  subst h1; subst h2
  exact out5 hh hl hne
theorem rngD {l' h' : Int32} {k lo hi : Nat} (h1 : nI lo = l') (h2 : nI hi = h') (hh : hi < 2 ^ 31) (a1 : lo ≤ k) (a2 : k ≤ hi) {A B : Prop} : (if nI k < l' then A else if nI k ≤ h' then B else A) = B := by
  subst h1; subst h2
  rw [if_neg (nI_nlt a1 (by omega)), if_pos (nI_le a2 (by omega))]
def rmI (x y : Int32) : Int32 := x - x / y * y
theorem rmI_e {x y : Int32} : x - x / y * y = rmI x y := rfl
def ctS (n m s cut : Int32) (k : Nat) : Int32 := if n - nI k - s < (if ¬ cut = -1 ∧ rmI cut m = rmI (nI k) m then n - cut - s else 0) then cut else nI k
def ctL (n m s : Int32) : Nat → Int32 → Int32
  | 0, cut => cut
  | k + 1, cut => ctL n m s k (ctS n m s cut k)
theorem nI0m1 : nI 0 - 1 = -1 := rfl
theorem nIm1 (k : Nat) : nI k + (-1) = nI k - 1 := (Int32.sub_eq_add_neg _ _).symm
theorem Pb_cut_loop {E : mEn} {d : Nat} {Q : mPost} {σ : mSt} {n m t s : Int32} (hm : ¬ m = 0) : ∀ (k : Nat) (cut : Int32) (u6 u7 : Value), k ≤ 60 → WP E d mPb_cuttingTurn 19 [.int n, .int m, .int t, .int s, .int cut, .int (nI k - 1), u6, u7] [] σ Q = Q (some (.int (ctL n m s k cut))) σ
  | 0, cut, u6, u7, hk => by
    rw [bPb_cuttingTurn_19, nI0m1, if_pos (by decide), bPb_cuttingTurn_86, ctL]
  | k + 1, cut, u6, u7, hk => by
    have e0 : WP E d mPb_cuttingTurn 24 [.int n, .int m, .int t, .int s, .int cut, .int (nI k), u6, u7] [] σ Q = WP E d mPb_cuttingTurn 46 [.int n, .int m, .int t, .int s, .int cut, .int (nI k), u6, u7] [.int (b2i (¬ cut = -1 ∧ rmI cut m = rmI (nI k) m))] σ Q := by
      rw [bPb_cuttingTurn_24]
      by_cases z : cut = -1
      · rw [if_pos z, bPb_cuttingTurn_45, b2i_f (fun g => g.1 z)]
      · rw [if_neg z, bPb_cuttingTurn_30, if_neg hm, if_neg hm, rmI_e, rmI_e]
        by_cases y : rmI cut m = rmI (nI k) m
        · rw [if_neg (fun g => g y), bPb_cuttingTurn_41, b2i_t ⟨z, y⟩]
        · rw [if_pos y, bPb_cuttingTurn_45, b2i_f (fun g => y g.2)]
    have e1 : WP E d mPb_cuttingTurn 46 [.int n, .int m, .int t, .int s, .int cut, .int (nI k), u6, u7] [.int (b2i (¬ cut = -1 ∧ rmI cut m = rmI (nI k) m))] σ Q = WP E d mPb_cuttingTurn 63 [.int n, .int m, .int t, .int s, .int cut, .int (nI k), .int (b2i (¬ cut = -1 ∧ rmI cut m = rmI (nI k) m)), u7] [.int (if ¬ cut = -1 ∧ rmI cut m = rmI (nI k) m then n - cut - s else 0)] σ Q := by
      rw [bPb_cuttingTurn_46]
      by_cases z : ¬ cut = -1 ∧ rmI cut m = rmI (nI k) m
      · rw [if_pos z, b2i_t z, if_neg i10, bPb_cuttingTurn_53]
      · rw [if_neg z, b2i_f z, if_pos rfl, bPb_cuttingTurn_62]
    rw [bPb_cuttingTurn_19, nI_pred, if_neg (nI_pos (by omega)), e0, e1, bPb_cuttingTurn_63, ctL, ctS]
    generalize (if ¬ cut = -1 ∧ rmI cut m = rmI (nI k) m then n - cut - s else 0) = T
    by_cases z : n - nI k - s < T
    · rw [if_pos z, if_pos z, bPb_cuttingTurn_80, nIm1, Pb_cut_loop hm k _ _ _ (by omega)]
    · rw [if_neg z, if_neg z, bPb_cuttingTurn_76, bPb_cuttingTurn_80, nIm1, Pb_cut_loop hm k _ _ _ (by omega)]
def SCt (o k : Nat) : Bool := o == 181 || o == 182
theorem Mo_cut_loop {E : mEn} {d : Nat} {Q : mPost} {n m t s w a6 : Int32} (hm : ¬ m = 0) : ∀ (k : Nat) (τ : mSt) (cut : Int32) (u8 u9 : Value), k ≤ 40 → τ.1 181 k = cut → (cut = -1 ∨ (¬ cut < 0 ∧ τ.1 182 k = n - cut - s)) →
    (∀ υ a7 v8 v9, qt SCt τ υ → υ.1 181 0 = ctL n m s k cut → (ctL n m s k cut = -1 ∨ ¬ ctL n m s k cut < 0) → WP E d mMo_cuts 220 [.ref 166, .int n, .int m, .int t, .int s, .int w, .int a6, .int a7, v8, v9] [] υ Q) → WP E d mMo_cuts 99 [.ref 166, .int n, .int m, .int t, .int s, .int w, .int a6, .int (nI k - 1), u8, u9] [] τ Q
  | 0, τ, cut, u8, u9, hk, h1, h2, hQ => by
    rw [bMo_cuts_99, nI0m1, if_pos (by decide)]
    exact hQ τ _ _ _ qt_rf h1 (h2.elim Or.inl (fun g => Or.inr g.1))
  | k + 1, τ, cut, u8, u9, hk, h1, h2, hQ => by
    have e0 : WP E d mMo_cuts 104 [.ref 166, .int n, .int m, .int t, .int s, .int w, .int a6, .int (nI k), u8, u9] [] τ Q = WP E d mMo_cuts 156 [.ref 166, .int n, .int m, .int t, .int s, .int w, .int a6, .int (nI k), .int (n - nI k - s), u9] [.int (if ¬ cut = -1 ∧ rmI cut m = rmI (nI k) m then n - cut - s else 0)] τ Q := by
      rw [bMo_cuts_104, nI_1, mOut_f (by omega) (by omega), nI_clamp (by omega), h1, if_neg (by decide)]
      rcases h2 with h2 | ⟨h2, h3⟩
      · rw [if_pos (by rw [h2]; decide), bMo_cuts_143, if_neg (fun g => g.1 h2)]
      · have hz : ¬ cut = -1 := fun g => h2 (by rw [g]; decide)
        rw [if_neg h2, bMo_cuts_125, nI_1, mOut_f (by omega) (by omega), nI_clamp (by omega), h1, if_neg (by decide), if_neg hm, if_neg hm, rmI_e, rmI_e]
        by_cases y : rmI cut m = rmI (nI k) m
        · rw [if_pos y, bMo_cuts_147, nI_1, mOut_f (by omega) (by omega), nI_clamp (by omega), h3, if_neg (by decide), if_pos ⟨hz, y⟩]
        · rw [if_neg y, bMo_cuts_143, if_neg (fun g => y g.2)]
    have e1 : ∀ T : Int32, WP E d mMo_cuts 156 [.ref 166, .int n, .int m, .int t, .int s, .int w, .int a6, .int (nI k), .int (n - nI k - s), u9] [.int T] τ Q = WP E d mMo_cuts 99 [.ref 166, .int n, .int m, .int t, .int s, .int w, .int a6, .int (nI k - 1), .int (n - nI k - s), .int T] [] (sI (sI τ 181 k (if n - nI k - s < T then cut else nI k)) 182 k (if n - nI k - s < T then τ.1 182 (k + 1) else n - nI k - s)) Q := fun T => by
      rw [bMo_cuts_156]
      by_cases z : n - nI k - s < T
      · rw [if_pos z, bMo_cuts_176, nI_1, mOut_f (by omega) (by omega), nI_clamp (by omega), h1, if_neg (by decide), bMo_cuts_185, mOut_f (by omega) (by omega), nI_clamp (by omega), if_neg (by decide), if_pos z, bMo_cuts_204, nI_1, mOut_f (by omega) (by omega), nI_clamp (by omega), if_neg (by decide), bMo_cuts_213, mOut_f (by omega) (by omega), nI_clamp (by omega), if_neg (by decide), nIm1, if_pos z, if_pos z, sI_rd, if_neg (by omega)]
      · rw [if_neg z, bMo_cuts_171, bMo_cuts_185, mOut_f (by omega) (by omega), nI_clamp (by omega), if_neg (by decide), if_neg z, bMo_cuts_199, bMo_cuts_213, mOut_f (by omega) (by omega), nI_clamp (by omega), if_neg (by decide), nIm1, if_neg z, if_neg z]
    rw [bMo_cuts_99, nI_pred, if_neg (nI_pos (by omega)), e0, e1]
    refine Mo_cut_loop hm k _ (ctS n m s cut k) _ _ (by omega) ?_ ?_ (fun υ a7 v8 v9 q => hQ υ a7 v8 v9 (qt_tr (qt_sI (qt_sI qt_rf rfl) rfl) q))
    · rw [sI_rd, if_neg (by omega), sI_rd, if_pos ⟨rfl, rfl⟩]; rfl
    · rw [sI_rd, if_pos ⟨rfl, rfl⟩]
      unfold ctS
      generalize (if ¬ cut = -1 ∧ rmI cut m = rmI (nI k) m then n - cut - s else 0) = T
      by_cases z : n - nI k - s < T
      · rw [if_pos z, if_pos z]
        rcases h2 with h2 | ⟨h2, h3⟩
        · exact Or.inl h2
        · exact Or.inr ⟨h2, h3⟩
      · rw [if_neg z, if_neg z]
        exact Or.inr ⟨nI_pos (by omega), rfl⟩
theorem SCt_SQ {o k : Nat} (h : SCt o k = true) : SQ o k = true := by
  simp only [SCt, Bool.or_eq_true, beq_iff_eq] at h
  rcases h with rfl | rfl <;> rfl
theorem mnN {a b : Nat} (ha : a < 2 ^ 31) (hb : b < 2 ^ 31) : (if nI b < nI a then nI b else nI a) = nI (if b < a then b else a) := by
  by_cases h : b < a
  · rw [if_pos (nI_lt h ha), if_pos h]
  · rw [if_neg (nI_nlt (by omega) hb), if_neg h]
theorem P_cuts {E : mEn} {d : Nat} {σ : mSt} {n m t s w : Int32} {u1 u2 u3 u4 u5 : Value} (hI : Inv σ) : pairI E (d + 3) mPb_cuts mMo_cuts [.ref 0, .int n, .int m, .int t, .int s, .int w, u1] [.ref 166, .int n, .int m, .int t, .int s, .int w, u2, u3, u4, u5] σ := by
  have rf : ∀ Q : mPost, (∀ τ, qt SQ σ τ → τ.1 0 10 = nI 5 → Q (some (.int (-1))) τ) → ∀ n m t s w : Int32, WP E (d + 3) mPb_cuts 33 [.ref 0, .int n, .int m, .int t, .int s, .int w, u1] [] σ Q ∧ WP E (d + 3) mPb_cuts 62 [.ref 0, .int n, .int m, .int t, .int s, .int w, u1] [] σ Q := fun Q k n m t s w => by
    rw [bPb_cuts_33, bPb_refuse_0, tl_s, bPb_cuts_38, bPb_cuts_62, bPb_refuse_0, tl_s, bPb_cuts_67]
    exact ⟨k _ (by repeat' (first | exact qt_rf | assumption | refine qt_sI ?_ rfl | refine qt_sL ?_ rfl)) rfl, k _ (by repeat' (first | exact qt_rf | assumption | refine qt_sI ?_ rfl | refine qt_sL ?_ rfl)) rfl⟩
  have rm : ∀ (τ : mSt) (Q : mPost), (∀ υ, qt SQ τ υ → υ.1 166 0 = nI 5 → υ.1 0 10 = τ.1 0 10 → Q (some (.int (-1))) υ) → ∀ n m t s w : Int32, WP E (d + 3) mMo_cuts 72 [.ref 166, .int n, .int m, .int t, .int s, .int w, u2, u3, u4, u5] [] (sI (sI τ 166 1 0) 166 0 0) Q := fun τ Q k n m t s w => by
    rw [bMo_cuts_72, bMo_refuse_0, tl_s, bMo_cuts_77]
    exact k _ (by repeat' (first | exact qt_rf | assumption | refine qt_sI ?_ rfl | refine qt_sL ?_ rfl)) rfl rfl
  rcases sw_cs n 1 60 with ⟨kn, lkn, hkn, rfl⟩ | hne
  rotate_left
  · refine pairI_q hI (-1) (nI 5) (fun Q k => ?_) (fun τ q Q k => ?_)
    · rw [bPb_cuts_0, bPb_cuts_5, rngA (l' := 1) (h' := nI 60) (lo := 1) (hi := 60) rfl rfl (by omega) (by omega) hne]
      exact (rf Q k _ _ _ _ _).1
    · rw [bMo_cuts_0, Mo_isIn, tl_s, bMo_cuts_19, b2i_f (isIn_f (l6 := 1) (h6 := 60) (lo := 1) (hi := 60) rfl rfl (by omega) (by omega) hne), if_pos rfl]
      exact rm τ Q k _ _ _ _ _
  rcases sw_cs m 2 8 with ⟨km, lkm, hkm, rfl⟩ | hne
  rotate_left
  · refine pairI_q hI (-1) (nI 5) (fun Q k => ?_) (fun τ q Q k => ?_)
    · rw [bPb_cuts_0, bPb_cuts_5, rngB (l' := 1) (h' := nI 60) (lo := 1) (hi := 60) rfl rfl (by omega) lkn hkn, bPb_cuts_11, bPb_cuts_16, rngA (l' := nI 2) (h' := nI 8) (lo := 2) (hi := 8) rfl rfl (by omega) (by omega) hne]
      exact (rf Q k _ _ _ _ _).1
    · rw [bMo_cuts_0, Mo_isIn, tl_s, bMo_cuts_19, b2i_t (isIn_t (l6 := 1) (h6 := 60) (lo := 1) (hi := 60) rfl rfl (by omega) lkn hkn), if_neg i10, bMo_cuts_22, Mo_isIn, tl_s, bMo_cuts_33, b2i_f (isIn_f (l6 := 2) (h6 := 8) (lo := 2) (hi := 8) rfl rfl (by omega) (by omega) hne), if_pos rfl]
      exact rm τ Q k _ _ _ _ _
  rcases sw_cs t 1 40 with ⟨kt, lkt, hkt, rfl⟩ | hne
  rotate_left
  · refine pairI_q hI (-1) (nI 5) (fun Q k => ?_) (fun τ q Q k => ?_)
    · rw [bPb_cuts_0, bPb_cuts_5, rngB (l' := 1) (h' := nI 60) (lo := 1) (hi := 60) rfl rfl (by omega) lkn hkn, bPb_cuts_11, bPb_cuts_16, rngB (l' := nI 2) (h' := nI 8) (lo := 2) (hi := 8) rfl rfl (by omega) lkm hkm, bPb_cuts_22, bPb_cuts_27, rngC (l' := 1) (h' := nI 40) (lo := 1) (hi := 40) rfl rfl (by omega) (by omega) hne]
      exact (rf Q k _ _ _ _ _).1
    · rw [bMo_cuts_0, Mo_isIn, tl_s, bMo_cuts_19, b2i_t (isIn_t (l6 := 1) (h6 := 60) (lo := 1) (hi := 60) rfl rfl (by omega) lkn hkn), if_neg i10, bMo_cuts_22, Mo_isIn, tl_s, bMo_cuts_33, b2i_t (isIn_t (l6 := 2) (h6 := 8) (lo := 2) (hi := 8) rfl rfl (by omega) lkm hkm), if_neg i10, bMo_cuts_36, Mo_isIn, tl_s, bMo_cuts_45, b2i_f (isIn_f (l6 := 1) (h6 := 40) (lo := 1) (hi := 40) rfl rfl (by omega) (by omega) hne), if_pos rfl]
      exact rm τ Q k _ _ _ _ _
  rcases sw_cs s 0 60 with ⟨ks, lks, hks, rfl⟩ | hne
  rotate_left
  · refine pairI_q hI (-1) (nI 5) (fun Q k => ?_) (fun τ q Q k => ?_)
    · rw [bPb_cuts_0, bPb_cuts_5, rngB (l' := 1) (h' := nI 60) (lo := 1) (hi := 60) rfl rfl (by omega) lkn hkn, bPb_cuts_11, bPb_cuts_16, rngB (l' := nI 2) (h' := nI 8) (lo := 2) (hi := 8) rfl rfl (by omega) lkm hkm, bPb_cuts_22, bPb_cuts_27, rngD (l' := 1) (h' := nI 40) (lo := 1) (hi := 40) rfl rfl (by omega) lkt hkt, bPb_cuts_39, bPb_cuts_44, rngA (l' := 0) (h' := nI 60) (lo := 0) (hi := 60) rfl rfl (by omega) (by omega) hne]
      exact (rf Q k _ _ _ _ _).2
    · rw [bMo_cuts_0, Mo_isIn, tl_s, bMo_cuts_19, b2i_t (isIn_t (l6 := 1) (h6 := 60) (lo := 1) (hi := 60) rfl rfl (by omega) lkn hkn), if_neg i10, bMo_cuts_22, Mo_isIn, tl_s, bMo_cuts_33, b2i_t (isIn_t (l6 := 2) (h6 := 8) (lo := 2) (hi := 8) rfl rfl (by omega) lkm hkm), if_neg i10, bMo_cuts_36, Mo_isIn, tl_s, bMo_cuts_45, b2i_t (isIn_t (l6 := 1) (h6 := 40) (lo := 1) (hi := 40) rfl rfl (by omega) lkt hkt), if_neg i10, bMo_cuts_48, Mo_isIn, tl_s, bMo_cuts_58, b2i_f (isIn_f (l6 := 0) (h6 := 60) (lo := 0) (hi := 60) rfl rfl (by omega) (by omega) hne), if_pos rfl]
      exact rm τ Q k _ _ _ _ _
  rcases sw_cs w 0 1 with ⟨kw, lkw, hkw, rfl⟩ | hne
  rotate_left
  · refine pairI_q hI (-1) (nI 5) (fun Q k => ?_) (fun τ q Q k => ?_)
    · rw [bPb_cuts_0, bPb_cuts_5, rngB (l' := 1) (h' := nI 60) (lo := 1) (hi := 60) rfl rfl (by omega) lkn hkn, bPb_cuts_11, bPb_cuts_16, rngB (l' := nI 2) (h' := nI 8) (lo := 2) (hi := 8) rfl rfl (by omega) lkm hkm, bPb_cuts_22, bPb_cuts_27, rngD (l' := 1) (h' := nI 40) (lo := 1) (hi := 40) rfl rfl (by omega) lkt hkt, bPb_cuts_39, bPb_cuts_44, rngB (l' := 0) (h' := nI 60) (lo := 0) (hi := 60) rfl rfl (by omega) lks hks, bPb_cuts_51, bPb_cuts_56, rngC (l' := 0) (h' := 1) (lo := 0) (hi := 1) rfl rfl (by omega) (by omega) hne]
      exact (rf Q k _ _ _ _ _).2
    · rw [bMo_cuts_0, Mo_isIn, tl_s, bMo_cuts_19, b2i_t (isIn_t (l6 := 1) (h6 := 60) (lo := 1) (hi := 60) rfl rfl (by omega) lkn hkn), if_neg i10, bMo_cuts_22, Mo_isIn, tl_s, bMo_cuts_33, b2i_t (isIn_t (l6 := 2) (h6 := 8) (lo := 2) (hi := 8) rfl rfl (by omega) lkm hkm), if_neg i10, bMo_cuts_36, Mo_isIn, tl_s, bMo_cuts_45, b2i_t (isIn_t (l6 := 1) (h6 := 40) (lo := 1) (hi := 40) rfl rfl (by omega) lkt hkt), if_neg i10, bMo_cuts_48, Mo_isIn, tl_s, bMo_cuts_58, b2i_t (isIn_t (l6 := 0) (h6 := 60) (lo := 0) (hi := 60) rfl rfl (by omega) lks hks), if_neg i10, bMo_cuts_61, Mo_isIn, tl_s, bMo_cuts_69, b2i_f (isIn_f (l6 := 0) (h6 := 1) (lo := 0) (hi := 1) rfl rfl (by omega) (by omega) hne), if_neg (by decide)]
      exact rm τ Q k _ _ _ _ _
  have hm0 : ¬ nI km = 0 := nI_ne0 (by omega) (by omega)
  have hT : (if kt < kn then kt else kn) ≤ 40 := by split <;> omega
  have XC : ∀ Q : mPost, WP E (d + 3) mPb_cuts 0 [.ref 0, .int (nI kn), .int (nI km), .int (nI kt), .int (nI ks), .int (nI kw), u1] [] σ Q = WP E (d + 3) mPb_cuts 76 [.ref 0, .int (nI kn), .int (nI km), .int (nI kt), .int (nI ks), .int (nI kw), u1] [.int (ctL (nI kn) (nI km) (nI ks) (if kt < kn then kt else kn) (-1))] σ Q := fun Q => by
    rw [bPb_cuts_0, bPb_cuts_5, rngB (l' := 1) (h' := nI 60) (lo := 1) (hi := 60) rfl rfl (by omega) lkn hkn, bPb_cuts_11, bPb_cuts_16, rngB (l' := nI 2) (h' := nI 8) (lo := 2) (hi := 8) rfl rfl (by omega) lkm hkm, bPb_cuts_22, bPb_cuts_27, rngD (l' := 1) (h' := nI 40) (lo := 1) (hi := 40) rfl rfl (by omega) lkt hkt, bPb_cuts_39, bPb_cuts_44, rngB (l' := 0) (h' := nI 60) (lo := 0) (hi := 60) rfl rfl (by omega) lks hks, bPb_cuts_51, bPb_cuts_56, rngD (l' := 0) (h' := 1) (lo := 0) (hi := 1) rfl rfl (by omega) lkw hkw, bPb_cuts_68, bPb_cuttingTurn_0, if_pos (show (1 : Int32) ≤ nI km from nI_le (a := 1) (by omega) (by omega)), bPb_cuttingTurn_7, mnN (by omega) (by omega), Pb_cut_loop hm0 _ _ _ _ (by omega), tl_s]
  have XM : ∀ (τ : mSt) (Q : mPost), (∀ υ a6 a7 v8 v9, qt SCt (sI (sI τ 166 1 0) 166 0 0) υ → υ.1 181 0 = ctL (nI kn) (nI km) (nI ks) (if kt < kn then kt else kn) (-1) → (ctL (nI kn) (nI km) (nI ks) (if kt < kn then kt else kn) (-1) = -1 ∨ ¬ ctL (nI kn) (nI km) (nI ks) (if kt < kn then kt else kn) (-1) < 0) → WP E (d + 3) mMo_cuts 220 [.ref 166, .int (nI kn), .int (nI km), .int (nI kt), .int (nI ks), .int (nI kw), .int a6, .int a7, v8, v9] [] υ Q) → WP E (d + 3) mMo_cuts 0 [.ref 166, .int (nI kn), .int (nI km), .int (nI kt), .int (nI ks), .int (nI kw), u2, u3, u4, u5] [] τ Q := fun τ Q k => by
    rw [bMo_cuts_0, Mo_isIn, tl_s, bMo_cuts_19, b2i_t (isIn_t (l6 := 1) (h6 := 60) (lo := 1) (hi := 60) rfl rfl (by omega) lkn hkn), if_neg i10, bMo_cuts_22, Mo_isIn, tl_s, bMo_cuts_33, b2i_t (isIn_t (l6 := 2) (h6 := 8) (lo := 2) (hi := 8) rfl rfl (by omega) lkm hkm), if_neg i10, bMo_cuts_36, Mo_isIn, tl_s, bMo_cuts_45, b2i_t (isIn_t (l6 := 1) (h6 := 40) (lo := 1) (hi := 40) rfl rfl (by omega) lkt hkt), if_neg i10, bMo_cuts_48, Mo_isIn, tl_s, bMo_cuts_58, b2i_t (isIn_t (l6 := 0) (h6 := 60) (lo := 0) (hi := 60) rfl rfl (by omega) lks hks), if_neg i10, bMo_cuts_61, Mo_isIn, tl_s, bMo_cuts_69, b2i_t (isIn_t (l6 := 0) (h6 := 1) (lo := 0) (hi := 1) rfl rfl (by omega) lkw hkw), if_pos i10, bMo_cuts_78, mnN (by omega) (by omega), mOut_f (by omega) (by omega), nI_clamp (by omega), if_neg (by decide)]
    refine Mo_cut_loop hm0 _ _ (-1) _ _ hT (by rw [sI_rd, if_pos ⟨rfl, rfl⟩]) (Or.inl rfl) (fun υ a7 v8 v9 q => k υ _ a7 v8 v9 (qt_tr (qt_sI qt_rf rfl) q))
  generalize ctL (nI kn) (nI km) (nI ks) (if kt < kn then kt else kn) (-1) = cut at XC XM
  have Q2 : ∀ τ υ : mSt, qt SCt (sI (sI τ 166 1 0) 166 0 0) υ → qt SQ τ υ := fun τ υ q => qt_tr (τ := sI (sI τ 166 1 0) 166 0 0) (by repeat' (first | exact qt_rf | assumption | refine qt_sI ?_ rfl | refine qt_sL ?_ rfl)) (qt_mono q (fun o k => SCt_SQ))
  by_cases z : cut = -1
  · refine pairI_q hI (-1) (nI 8) (fun Q k => ?_) (fun τ q Q k => ?_)
    · rw [XC, bPb_cuts_76, ite_nn z, bPb_cuts_84, bPb_refuse_0, tl_s, bPb_cuts_90]
      exact k _ (by repeat' (first | exact qt_rf | assumption | refine qt_sI ?_ rfl | refine qt_sL ?_ rfl)) rfl
    · refine XM τ Q (fun υ a6 a7 v8 v9 q g1 g2 => ?_)
      rw [bMo_cuts_220, if_neg (by decide), g1, if_neg (by rw [z]; decide), bMo_cuts_229, bMo_refuse_0, tl_s, bMo_cuts_235, bMo_cuts_260]
      exact k _ (qt_sI (Q2 τ υ q) rfl) rfl (q 0 10 rfl).1
  · match kw, hkw with
    | 0, _ =>
      refine pairI_q hI (rmI cut (nI km)) 0 (fun Q k => ?_) (fun τ q Q k => ?_)
      · rw [XC, bPb_cuts_76, if_pos z, bPb_cuts_91, if_pos (by decide), bPb_cuts_103, if_neg hm0, bPb_cuts_107, bPb_answer_0, tl_s, bPb_cuts_110]
        exact k _ (by repeat' (first | exact qt_rf | assumption | refine qt_sI ?_ rfl | refine qt_sL ?_ rfl)) rfl
      · refine XM τ Q (fun υ a6 a7 v8 v9 q g1 g2 => ?_)
        rw [bMo_cuts_220, if_neg (by decide), g1, if_pos (Int32.not_lt.mp (g2.resolve_left z)), bMo_cuts_238, if_neg (by decide), bMo_cuts_243, if_neg (by decide), if_neg hm0, bMo_cuts_260, g1]
        exact k _ (Q2 τ υ q) (q 166 0 rfl).1 (q 0 10 rfl).1
    | 1, _ =>
      refine pairI_q hI cut 0 (fun Q k => ?_) (fun τ q Q k => ?_)
      · rw [XC, bPb_cuts_76, if_pos z, bPb_cuts_91, if_neg (by decide), bPb_cuts_98, bPb_cuts_107, bPb_answer_0, tl_s, bPb_cuts_110]
        exact k _ (by repeat' (first | exact qt_rf | assumption | refine qt_sI ?_ rfl | refine qt_sL ?_ rfl)) rfl
      · refine XM τ Q (fun υ a6 a7 v8 v9 q g1 g2 => ?_)
        rw [bMo_cuts_220, if_neg (by decide), g1, if_pos (Int32.not_lt.mp (g2.resolve_left z)), bMo_cuts_238, if_pos (by decide), bMo_cuts_254, if_neg (by decide), bMo_cuts_260, g1]
        exact k _ (Q2 τ υ q) (q 166 0 rfl).1 (q 0 10 rfl).1
