/-! live: all steps -/
def lpF (ex : lvS → Nat → Nat → lvS) (s e : Nat) : Nat → lvS → lvS
  | 0, S => S
  | n + 1, S => if S.2 38 = 0 then lpF ex s e n (ex S s e) else S
def one (S : lvS) : lvS := (S.1, upd S.2 40 (S.2 40 + 1))
def plF (np no : Nat) (S : lvS) (w : Nat) : lvS := ((dsF np no S w).1.1, upd (dsF np no S w).1.2 41 (S.2 41 + if (dsF np no S w).2 = 0 then 1 else 0))
def doF (np no : Nat) (ex : lvS → Nat → Nat → lvS) (S : lvS) (s : Nat) : lvS :=
  if S.2 40 = nI 300 then (S.1, upd (upd S.2 38 1) 45 1)
  else if S.1 (324 + 9 * s) = nI 6 then (if isB S.1 (324 + 9 * s) = true then ex (one S) (s + 1) (cN S.1 (324 + 9 * s + 8)) else one S)
  else if S.1 (324 + 9 * s) = nI 7 then lpF ex (s + 1) (cN S.1 (324 + 9 * s + 8)) (cN S.1 (324 + 9 * s + 1)) (one S)
  else if S.1 (324 + 9 * s) = nI 8 then (S.1, upd (one S).2 38 1)
  else plF np no (one S) (324 + 9 * s)
def exA (np no : Nat) : Nat → lvS → Nat → Nat → lvS
  | 0, S, _, _ => S
  | f + 1, S, s, e => if s = e ∨ ¬ S.2 38 = 0 then S else exA np no f (doF np no (exA np no f) S s) (cN S.1 (324 + 9 * s + 8)) e
theorem exA_o {np no : Nat} {S : lvS} (h : ¬ S.2 38 = 0) : ∀ f s e, exA np no f S s e = S
  | 0, _, _ => rfl
  | f + 1, s, e => by rw [exA, if_pos (Or.inr h)]
theorem exA_e {np no : Nat} {S : lvS} : ∀ f e, exA np no f S e e = S
  | 0, _ => rfl
  | f + 1, e => by rw [exA, if_pos (Or.inl rfl)]
theorem waF_k {no : Nat} : ∀ (j : Nat) (S : lvS) (i : Nat), i ≠ 39 → (waF no j S).2 i = S.2 i
  | 0, S, i, hi => rfl
  | j + 1, S, i, hi => by
    rw [waF]
    split
    · rw [waF_k j _ i hi]
      exact upd_n hi
    · rfl
theorem dsF_k {np no : Nat} {S : lvS} {w i : Nat} (h39 : i ≠ 39) (h42 : i ≠ 42) (h43 : i ≠ 43) (h44 : i ≠ 44) : (dsF np no S w).1.2 i = S.2 i := by
  unfold dsF
  split
  · split <;> rfl
  split
  · split <;> rfl
  split
  · split
    · show upd (upd _ 42 _) 44 _ i = _
      rw [upd_n h44, upd_n h42]
    · rfl
  split
  · exact waF_k _ S i h39
  split
  · split <;> rfl
  show upd _ 43 _ i = _
  rw [upd_n h43]
theorem waF_c {no : Nat} : ∀ (j : Nat) (S : lvS) (i : Nat), i ≠ 4 → i ≠ 5 → (waF no j S).1 i = S.1 i
  | 0, S, i, _, _ => rfl
  | j + 1, S, i, h4, h5 => by
    rw [waF]
    split
    · rw [waF_c j _ i h4 h5]
      show upd (upd S.1 4 _) 5 _ i = _
      rw [upd_n h5, upd_n h4]
    · rfl
def MDo (E : mEn) (np no f : Nat) (S : lvS) (s e : Nat) : Prop := ∀ (d : Nat) (σ : mSt) (Q : mPost) (a1 : Int32), σ.1 171 = S.1 → MR S.2 σ → (∀ τ, qt SMv σ τ → τ.1 166 0 = σ.1 166 0 → τ.1 171 = (exA np no f S s e).1 → MR (exA np no f S s e).2 τ → Q none τ) → WP E (d + 2 * f + 10) mMo_doAll 2 [.ref 166, .int a1, .int (nI e), .int (nI s)] [] σ Q
def MOne (E : mEn) (np no f : Nat) (S : lvS) (s : Nat) : Prop := ∀ (d : Nat) (σ : mSt) (Q : mPost), σ.1 171 = S.1 → MR S.2 σ → (∀ τ, qt SMv σ τ → τ.1 166 0 = σ.1 166 0 → τ.1 171 = (doF np no (exA np no f) S s).1 → MR (doF np no (exA np no f) S s).2 τ → Q none τ) → WP E (d + 2 * f + 11) mMo_doOne 0 [.ref 166, .int (nI s), uu, uu, uu] [] σ Q
theorem MDo_e {E : mEn} {np no f : Nat} {S : lvS} {e : Nat} : MDo E np no f S e e := fun d σ Q a1 hc hk hQ => by
  rw [exA_e] at hQ
  rw [bMo_doAll_2, if_pos (Int32.le_refl _), bMo_doAll_39]
  exact hQ σ qt_rf rfl hc hk
theorem MDo_o {E : mEn} {np no f : Nat} {S : lvS} {s e : Nat} (h : ¬ S.2 38 = 0) : MDo E np no f S s e := fun d σ Q a1 hc hk hQ => by
  rw [exA_o h] at hQ
  have F := hQ σ qt_rf rfl hc hk
  rw [bMo_doAll_2]
  by_cases z : nI e ≤ nI s
  · rw [if_pos z, bMo_doAll_39]; exact F
  · rw [if_neg z, bMo_doAll_7, hk 38 (by omega) (by omega), if_pos h, bMo_doAll_39]; exact F
theorem MDo_s {E : mEn} {np no f : Nat} {S : lvS} {s s1 e : Nat} {c0 : Nat → Int32} (h38 : S.2 38 = 0) (hs : s < e) (he : e ≤ 30) (h8 : S.1 (324 + 9 * s + 8) = nI s1) (h1 : s1 ≤ 30) (hd : (doF np no (exA np no f) S s).1 (324 + 9 * s + 8) = nI s1) (g : MOne E np no f S s) (m : MDo E np no f (doF np no (exA np no f) S s) s1 e) : MDo E np no (f + 1) S s e := fun d σ Q a1 hc hk hQ => by
  rw [exA, if_neg (fun x => x.elim (fun y => by omega) (fun y => y h38)), show cN S.1 (324 + 9 * s + 8) = s1 by unfold cN; rw [h8, nI_clamp (by omega)]] at hQ
  rw [bMo_doAll_2, if_neg (nI_ge hs (by omega)), bMo_doAll_7, hk 38 (by omega) (by omega), ite_nn h38, show d + 2 * (f + 1) + 10 = d + 2 * f + 11 + 1 by omega, bMo_doAll_14]
  refine g d σ _ hc hk (fun τ q1 g0 g1 g2 => ?_)
  rw [tl_n, bMo_doAll_19, pk_mul, nI_add, nI_add, mOut_f (by omega) (by omega), nI_clamp (by omega), g1, hd, if_neg (by decide), show d + 2 * f + 11 + 1 = d + 2 + 2 * f + 10 by omega]
  exact m (d + 2) τ Q a1 g1 g2 (fun υ q2 x0 x1 x2 => hQ υ (qt_tr q1 q2) (x0.trans g0) x1 x2)
def SLr (t v o k : Nat) : Bool := SLd t v o k || o == v + 8
theorem SLd_r {t v o k : Nat} (h : SLd t v o k = true) : SLr t v o k = true := by simp only [SLr, h, Bool.true_or]
theorem SLd_8 {t v k : Nat} (ht : isT t) (hv : isV v) : SLd t v (v + 8) k = false := by
  have := isT_lt ht
  have := isV_bd hv
  simp only [SLd, STn, Bool.or_eq_false_iff, Bool.and_eq_false_iff, decide_eq_false_iff_not, beq_eq_false_iff_ne]
  omega
/-- what class and base state have in common -/
def CX (σ0 : mSt) (v t np no nl : Nat) (w : Nat → Int64) (c0 : Nat → Int32) (S : lvS) (τ : mSt) : Prop := isT2 τ t S.1 w np no nl ∧ LR v S.2 τ ∧ qt (SLr t v) σ0 τ ∧ GB σ0 τ t ∧ ∀ i, 322 ≤ i → i < 600 → S.1 i = c0 i
theorem SLr_d {t v j k : Nat} (ht : isT t) (hv : isV v) (hj : j = 12 ∨ j = 13) : SLr t v (t + j) k = false := by
  have := isT_lt ht
  have := isV_bd hv
  simp only [SLr, SLd, STn, Bool.or_eq_false_iff, Bool.and_eq_false_iff, decide_eq_false_iff_not, beq_eq_false_iff_ne]
  omega
theorem Li_turn {E : mEn} {D : Nat} {Q : mPost} {τ : mSt} {v t r k R : Nat} {a2 : Int32} (ht : isT t) (hv : isV v) (hk : k < 1000000) (hr : r < R) (hR : R ≤ 60) (h3 : τ.1 (t + 12) 3 = nI R) : WP E (D + 1) mLi_run 40 [.ref v, .ref t, .int a2, .int (nI r), .int (nI k)] [] τ Q = WP E D mLi_goOn 0 [.ref v, .ref t, .int (nI r), uu, uu] [] τ (fun x σ' => WP E (D + 1) mLi_run 68 [.ref v, .ref t, .int a2, .int (nI r), .int (nI k)] (x.toList ++ []) σ' Q) := by
  rw [bLi_run_40 ht hv, big_nI, if_neg (nI_ge hk (by omega)), bLi_run_47 ht hv, if_neg (nI_pos (by omega)), bLi_run_51 ht hv, h3, if_neg (nI_ge hr (by omega)), bLi_run_62 ht hv]
theorem Li_exit {E : mEn} {D : Nat} {Q : mPost} {τ : mSt} {v t R : Nat} {a2 a4 : Int32} (ht : isT t) (hv : isV v) (hR : R ≤ 60) (h3 : τ.1 (t + 12) 3 = nI R) : WP E D mLi_run 40 [.ref v, .ref t, .int a2, .int (nI R), .int a4] [] τ Q = Q none τ := by
  have e : WP E D mLi_run 75 [.ref v, .ref t, .int a2, .int (nI R), .int a4] [] τ Q = Q none τ := bLi_run_75 ht hv
  rw [bLi_run_40 ht hv, bLi_run_47 ht hv, if_neg (c := nI R < 0) (nI_pos (by omega)), bLi_run_51 ht hv, h3, if_pos (c := nI R ≤ nI R) (Int32.le_refl _), ite_self, e]
theorem Li_goWord {E : mEn} {D : Nat} {Q : mPost} {τ : mSt} {v t r : Nat} {x : Nat} {u3 u4 : Value} (ht : isT t) (hv : isV v) (hr : r < 60) (hx : τ.1 (t + 13) (r * 7) = nI x) (hx2 : x < 100) (h26 : x ≠ 26) : WP E (D + 1) mLi_goOn 0 [.ref v, .ref t, .int (nI r), u3, u4] [] τ Q = WP E (D + 1) mLi_goOn 27 [.ref v, .ref t, .int (nI r), .ref (t + 12), .int (nI x)] [] τ Q := by
  rw [bLi_goOn_0 ht hv, Da_cellD (j := 0) (x := 0) ht hr (by omega) rfl, tl_s, bLi_goOn_11 ht hv, show r * 7 + 0 = r * 7 from rfl, hx, if_pos (fun g => h26 ((nI_eq (by omega) (by omega)).mp g))]
/-- the end of a block: what comes next -/
theorem Li_end {E : mEn} {D : Nat} {Q : mPost} {τ : mSt} {v t r from' : Nat} {u3 u4 : Value} (ht : isT t) (hv : isV v) (hr : r < 60) (hf : from' < 60) (h0 : τ.1 (t + 13) (r * 7) = nI 26) (h6 : τ.1 (t + 13) (r * 7 + 6) = nI from') : WP E (D + 2) mLi_goOn 0 [.ref v, .ref t, .int (nI r), u3, u4] [] τ Q = if τ.1 (t + 13) (from' * 7) = nI 25 then (if τ.1 (v + 8) from' - 1 ≤ 0 then Q (some (.int (nI (r + 1)))) (sI τ (v + 8) from' (τ.1 (v + 8) from' - 1)) else Q (some (.int (nI (from' + 1)))) (sI τ (v + 8) from' (τ.1 (v + 8) from' - 1))) else Q (some (.int (nI (r + 1)))) τ := by
  rw [bLi_goOn_0 ht hv, Da_cellD (j := 0) (x := 0) ht hr (by omega) rfl, tl_s, bLi_goOn_11 ht hv, show r * 7 + 0 = r * 7 from rfl, h0, ite_nn rfl, bLi_goOn_20 ht hv, bLi_behindEnd_0 ht hv, Da_cellD (j := 6) ht hr (by omega) rfl, tl_s, h6, bLi_behindEnd_7 ht hv, Da_cellD (j := 0) (x := 0) ht hf (by omega) rfl, tl_s, bLi_behindEnd_14 ht hv, show from' * 7 + 0 = from' * 7 from rfl]
  by_cases z : τ.1 (t + 13) (from' * 7) = nI 25
  · rw [ite_nn z, if_pos z, bLi_behindEnd_19 ht hv, if_neg (nI_pos (by omega)), bLi_behindEnd_23 ht hv, if_pos (nI_lt hf (by omega)), bLi_behindEnd_36 ht hv, mOut_f (by omega) (by omega), nI_clamp (by omega), sI_e]
    simp only [not_true_eq_false, not_false_eq_true, and_self, and_true, true_and, and_false, false_and, or_true, true_or, or_false, false_or, or_self, if_true, if_false, ite_self, eq_self, Bool.false_eq_true, Bool.true_eq_false]
    by_cases y : τ.1 (v + 8) from' - 1 ≤ 0
    · rw [if_pos y, if_pos y, bLi_behindEnd_61 ht hv, bLi_behindEnd_64 ht hv, tl_s, bLi_goOn_26 ht hv, nI_1]
    · rw [if_neg y, if_neg y, bLi_behindEnd_55 ht hv, bLi_behindEnd_64 ht hv, tl_s, bLi_goOn_26 ht hv, nI_1]
  · rw [if_pos z, if_neg z, bLi_behindEnd_32 ht hv, tl_s, bLi_goOn_26 ht hv, nI_1]
