/-! what is gathered of all loaves; keeps -/
theorem dA_0 {held : Nat → Int32} : ∀ (L : List Nat) (A : Nat → Int32), (∀ x ∈ L, 0 < held x) → (∀ p, A p = 0) → ∀ p, dA held L A 0 p = 0
  | [], A, _, h, p => h p
  | x :: L, A, hL, h, p => by
    have hx := hL x (List.mem_cons_self ..)
    have e : mn 0 (held x) = 0 := by unfold mn; rw [if_pos hx]
    rw [dA, e, Int32.sub_zero]
    exact dA_0 L _ (fun y hy => hL y (List.mem_cons_of_mem _ hy)) (fun y => by unfold upd; split <;> first | rfl | exact h y) p
theorem gF_pap {c : Nat → Int32} {l p np nk : Nat} {wet : Int32} (h : c (42 + l) < 0) : gF c l p np nk wet = 0 := by
  unfold gF cF
  rw [if_pos h]
  exact dA_0 _ _ (fun x hx => (LF_mem (List.mem_reverse.mp hx)).2) (fun _ => rfl) p
def SHx (h o k : Nat) : Bool := decide (h ≤ o) && decide (o ≤ h + 6)
theorem SHx_T {h t j k : Nat} (hh : isH h) (ht : isT t) (hj : j < 25) : SHx h (t + j) k = false := by
  have := isT_lt ht
  have := isH_bd hh
  simp only [SHx, Bool.and_eq_false_iff, decide_eq_false_iff_not]
  omega
theorem SHs_x {h o k : Nat} (g : SHs h o k = true) : SHx h o k = true := by
  simp only [SHs, SHx, Bool.and_eq_true, decide_eq_true_eq] at g ⊢
  omega
theorem SHx_SQ {o k : Nat} (h : SHx 61 o k = true) : SQ o k = true := by
  simp only [SHx, Bool.and_eq_true, decide_eq_true_eq] at h
  have h1 : (decide (61 ≤ o) && decide (o ≤ 67)) = true := by simp; omega
  simp only [SQ, h1, Bool.or_true, Bool.true_or]
theorem SHx_in6 {h k : Nat} : SHx h (h + 6) k = true := by simp [SHx]
theorem SHs_6 {h k : Nat} : SHs h (h + 6) k = false := by simp [SHs]
theorem Sh_gather_loop {E : mEn} {d : Nat} {Q : mPost} {σ : mSt} {h t p np no nl nk dy : Nat} {c : Nat → Int32} {w : Nat → Int64} (hh : isH h) (ht : isT t) (hT : TRel σ t c w np no nl nk dy) (hp : p < np) : ∀ (j l : Nat) (τ : mSt), l + j = nl → qt (SHx h) σ τ → (∀ x, x < l → τ.1 (h + 6) x = gF c x p np nk 0) → (∀ x, nl ≤ x → x < 8 → τ.1 (h + 6) x = 0) →
    (∀ υ, qt (SHx h) σ υ → (∀ x, x < nl → υ.1 (h + 6) x = gF c x p np nk 0) → (∀ x, nl ≤ x → x < 8 → υ.1 (h + 6) x = 0) → Q none υ) → WP E (d + 4) mSh_gather 19 [.ref h, .ref t, .int (nI p), .int (nI l)] [] τ Q
  | 0, l, τ, e, q, g, g0, hQ => by
    have e' : l = nl := by omega
    subst e'
    have hT' : TRel τ t c w np no l nk dy := TRel_q q (fun j k hj _ _ => SHx_T hh ht hj) hT
    rw [bSh_gather_19 hh ht, hT'.2.2.2.1.1, if_pos (Int32.le_refl _), bSh_gather_61 hh ht]
    exact hQ τ q g g0
  | j + 1, l, τ, e, q, g, g0, hQ => by
    have hT' : TRel τ t c w np no nl nk dy := TRel_q q (fun j k hj _ _ => SHx_T hh ht hj) hT
    obtain ⟨⟨b1, b2, b3, b4, b5⟩, ⟨t1, c1⟩, ⟨t2, c2⟩, ⟨t3, c3⟩, ⟨t4, c4⟩, ⟨t5, c5⟩, c6, gP, gO, gL, gB, gK, -⟩ := id hT'
    have hl : l < nl := by omega
    rw [bSh_gather_19 hh ht, t3, if_neg (nI_ge (by omega) (by omega)), bSh_gather_27 hh ht]
    refine Sh_weigh hh ht hT' hl (fun υ q2 g2 => ?_)
    have hT2 : TRel υ t c w np no nl nk dy := TRel_q q2 (fun j k hj _ _ => SH_T hh ht hj) hT'
    rw [tl_n, bSh_gather_33 hh ht, Tw_comesOf ht hT2.2.2.2.1.1 b3 hl (hT2.2.2.2.2.2.2.2.2.2.1 l hl), tl_s, bSh_gather_40 hh ht]
    refine Sh_weal hh ht hT' hl q2 g2 (fun φ q3 g3 => ?_)
    have e6 : ∀ x, φ.1 (h + 6) x = τ.1 (h + 6) x := fun x => (q3 _ _ SHs_6).1
    rw [tl_n, bSh_gather_43 hh ht, mOut_f (by omega) (by omega), mOut_f (by omega) (by omega), nI_clamp (by omega), nI_clamp (by omega), if_neg (by decide), if_neg (by decide), nI_1, g3.2.2 p (by omega)]
    refine Sh_gather_loop hh ht hT hp j (l + 1) _ (by omega) (qt_sI (qt_tr q (qt_mono q3 (fun o k => SHs_x))) SHx_in6) (fun x hx => ?_) (fun x h1 h2 => ?_) hQ
    · by_cases y : x = l
      · subst y; rw [sI_e]
      · rw [sI_n (Or.inr y), e6]; exact g x (by omega)
    · rw [sI_n (Or.inr (by omega)), e6]; exact g0 x h1 h2
theorem Sh_gather {E : mEn} {d : Nat} {Q : mPost} {σ : mSt} {h t p np no nl nk dy : Nat} {c : Nat → Int32} {w : Nat → Int64} {u : Value} (hh : isH h) (ht : isT t) (hT : TRel σ t c w np no nl nk dy) (hp : p < np)
    (hQ : ∀ υ, qt (SHx h) σ υ → (∀ x, x < nl → υ.1 (h + 6) x = gF c x p np nk 0) → (∀ x, nl ≤ x → x < 8 → υ.1 (h + 6) x = 0) → Q none υ) : WP E (d + 4) mSh_gather 0 [.ref h, .ref t, .int (nI p), u] [] σ Q := by
  have tb := isT_lt ht
  have hb := isH_bd hh
  have b1 := hT.1.1
  have qf : qt (SHx h) σ (fillI σ (h + 6) 0 8 0) := qt_fI qt_rf (fun _ => SHx_in6)
  have f13 : (fillI σ (h + 6) 0 8 0).1 t 13 = nI np := by
    show (if t = h + 6 ∧ 0 ≤ 13 ∧ 13 < 0 + 8 then (0 : Int32) else σ.1 t 13) = nI np
    rw [if_neg (by omega)]; exact hT.2.1.1
  rw [bSh_gather_0 hh ht, Ar_fill (shH_6 hh) (by omega) (by omega), tl_n, bSh_gather_8 hh ht, Tw_hasPerson ht f13 hT.1.1, tl_s, bSh_gather_13 hh ht, b2i_t (mOut_f hp (by omega)), if_pos i10, bSh_gather_17 hh ht]
  refine Sh_gather_loop hh ht hT hp nl 0 _ (by omega) qf (fun x hx => absurd hx (by omega)) (fun x h1 h2 => ?_) hQ
  show (if h + 6 = h + 6 ∧ 0 ≤ x ∧ x < 0 + 8 then (0 : Int32) else σ.1 (h + 6) x) = 0
  rw [if_pos (by omega)]
/-- the slices that come on a day -/
def kpD (c : Nat → Int32) (p np nk : Nat) (day : Int32) : Nat → Nat → Int64 → Int64
  | 0, _, s => s
  | j + 1, l, s => kpD c p np nk day j (l + 1) (if c (50 + l) = day then s + (gF c l p np nk 0).toInt64 else s)
/-- the first day that can't be kept -/
def kpF (c : Nat → Int32) (v : Nat → Int64) (p np nl nk : Nat) : Nat → Nat → Int64 → Int32
  | 0, _, _ => -1
  | j + 1, k, s => if kpD c p np nk (nI k) nl 0 s - v k < 0 then nI k else kpF c v p np nl nk j (k + 1) (kpD c p np nk (nI k) nl 0 s - v k)
theorem Pb_fbd_in {E : mEn} {d : Nat} {Q : mPost} {σ : mSt} {p np no nl nk dy : Nat} {c : Nat → Int32} {w : Nat → Int64} {a1 a2 a3 day : Int32} (hT : TRel σ 10 c w np no nl nk dy) (hg : ∀ x, x < nl → σ.1 67 x = gF c x p np nk 0) : ∀ (j l : Nat) (s : Int64), l + j = nl → (∀ a7, WP E d mPb_firstBrokenDay 76 [.ref 0, .int a1, .int a2, .int a3, .long (kpD c p np nk day j l s), uu, .int day, .int a7] [] σ Q) → WP E d mPb_firstBrokenDay 27 [.ref 0, .int a1, .int a2, .int a3, .long s, uu, .int day, .int (nI l)] [] σ Q
  | 0, l, s, e, hQ => by
    have e' : l = nl := by omega
    subst e'
    rw [bPb_firstBrokenDay_27, hT.2.2.2.1.1, if_pos (Int32.le_refl _)]
    exact hQ _
  | j + 1, l, s, e, hQ => by
    have hl : l < nl := by omega
    have b3 := hT.1.2.2.1
    have e1 : σ.1 31 l = c (50 + l) := (hT.2.2.2.2.2.2.2.2.2.1 l hl).2.2.1.1
    rw [kpD] at hQ
    rw [bPb_firstBrokenDay_27, hT.2.2.2.1.1, if_neg (nI_ge (by omega) (by omega)), bPb_firstBrokenDay_39, mOut_f (by omega) (by omega), nI_clamp (by omega), e1, if_neg (show ¬ false = true by decide)]
    by_cases z : c (50 + l) = day
    · rw [if_pos z] at hQ
      rw [ite_nn z, bPb_firstBrokenDay_54, mOut_f (by omega) (by omega), nI_clamp (by omega), hg l hl, if_neg (show ¬ false = true by decide), bPb_firstBrokenDay_70, nI_1]
      exact Pb_fbd_in hT hg j (l + 1) _ (by omega) hQ
    · rw [if_neg z] at hQ
      rw [if_pos z, bPb_firstBrokenDay_70, nI_1]
      exact Pb_fbd_in hT hg j (l + 1) _ (by omega) hQ
theorem ite_lge {x y : Int64} {A B : Prop} : (if 0 ≤ lg_cmp x y then A else B) = if x < y then B else A := by
  by_cases h : x < y
  · rw [if_pos h, if_neg (Int32.not_le.mpr (by rw [lg_lt]; exact h))]
  · rw [if_neg h, if_pos (Int32.not_lt.mp (by rw [lg_lt]; exact h))]
theorem Pb_fbd_loop {E : mEn} {d : Nat} {Q : mPost} {σ : mSt} {p np no nl nk dy t n m : Nat} {c : Nat → Int32} {w : Nat → Int64} {v : Nat → Int64} {a1 : Int32} (hT : TRel σ 10 c w np no nl nk dy) (hg : ∀ x, x < nl → σ.1 67 x = gF c x p np nk 0) (ht : t < 4) (hn : n ≤ 60) (h : σ.1 4 t = nI n) (hm : m ≤ n) (hv : ∀ i, i < n → σ.2 2 (60 * t + i) = v i) : ∀ (j k : Nat) (s : Int64) (u7 : Value), k + j = m → Q (some (.int (kpF c v p np nl nk j k s))) σ → WP E (d + 5) mPb_firstBrokenDay 18 [.ref 0, .int a1, .int (nI t), .int (nI m), .long s, uu, .int (nI k), u7] [] σ Q
  | 0, k, s, u7, e, hQ => by
    have e' : k = m := by omega
    subst e'
    rw [bPb_firstBrokenDay_18, if_pos (Int32.le_refl _), bPb_firstBrokenDay_107]
    exact hQ
  | j + 1, k, s, u7, e, hQ => by
    rw [kpF] at hQ
    rw [bPb_firstBrokenDay_18, if_neg (nI_ge (by omega) (by omega)), bPb_firstBrokenDay_24]
    refine Pb_fbd_in hT hg nl 0 s (by omega) (fun a7 => ?_)
    generalize kpD c p np nk (nI k) nl 0 s = s2 at hQ ⊢
    rw [bPb_firstBrokenDay_76, Tr_atD ht hn h (show k < n by omega), tl_s, bPb_firstBrokenDay_88, ite_lge, hv k (by omega)]
    by_cases z : s2 - v k < 0
    · rw [if_pos z] at hQ
      rw [if_pos z, bPb_firstBrokenDay_98]
      exact hQ
    · rw [if_neg z] at hQ
      rw [if_neg z, bPb_firstBrokenDay_101, nI_1]
      exact Pb_fbd_loop hT hg ht hn h hm hv j (k + 1) _ _ (by omega) hQ
theorem Mo_kee_1 {E : mEn} {d : Nat} {σ : mSt} {Q : mPost} {t m : Nat} {a1 : Int32} {v : Nat → Int64} {u5 u6 u7 : Value} (ht : t < 4) (hm : m ≤ 60) (hv : ∀ i, i < 60 → σ.2 169 (60 * t + i) = v i) (h0 : ¬ awP v 999 m → Q (some (.int (-1))) (sI σ 166 0 (nI 5))) (h1 : awP v 999 m → ∀ a4, WP E (d + 1) mMo_keeps 125 [.ref 166, .int a1, .int (nI t), .int (nI m), .int a4, u5, u6, u7] [] σ Q) : ∀ (j k : Nat), k + j = m → awP v 999 k → WP E (d + 1) mMo_keeps 90 [.ref 166, .int a1, .int (nI t), .int (nI m), .int (nI k), u5, u6, u7] [] σ Q
  | 0, k, e, g => by
    have e' : k = m := by omega
    subst e'
    rw [bMo_keeps_90, if_pos (Int32.le_refl _)]
    exact h1 g _
  | j + 1, k, e, g => by
    rw [bMo_keeps_90, if_neg (nI_ge (by omega) (by omega)), bMo_keeps_96, Mo_num ht (by omega), tl_s, bMo_keeps_103, Mo_isIn, tl_s, bMo_keeps_110, hv k (by omega)]
    by_cases z : ¬ v k < 0 ∧ ¬ 999 < v k
    · rw [b2i_t z, if_pos i10, bMo_keeps_119, nI_1]
      refine Mo_kee_1 ht hm hv h0 h1 j (k + 1) (by omega) (fun i hi => ?_)
      by_cases x : i = k
      · subst x; exact z
      · exact g i (by omega)
    · rw [b2i_f z, ite_nn rfl, bMo_keeps_113, bMo_refuse_0, tl_s, bMo_keeps_118]
      exact h0 (fun g => z (g k (by omega)))
theorem Mo_kee_in {E : mEn} {d : Nat} {Q : mPost} {σ σ0 : mSt} {p np no nl nk dy : Nat} {c : Nat → Int32} {w : Nat → Int64} {a2 a3 day : Int32} (hT : TRel σ0 10 c w np no nl nk dy) (hp : p < np) : ∀ (j l : Nat) (s : Int64) (τ : mSt), l + j = nl → qt SDl σ τ → τ.1 171 = c → (∀ υ a7, qt SDl σ υ → υ.1 171 = c → WP E (d + 7) mMo_keeps 199 [.ref 166, .int (nI p), .int a2, .int a3, .long (kpD c p np nk day j l s), uu, .int day, .int a7] [] υ Q) → WP E (d + 7) mMo_keeps 140 [.ref 166, .int (nI p), .int a2, .int a3, .long s, uu, .int day, .int (nI l)] [] τ Q
  | 0, l, s, τ, e, q, hc, hQ => by
    have e' : l = nl := by omega
    subst e'
    rw [bMo_keeps_140, if_neg (by decide), hc, hT.2.2.2.1.2, if_pos (Int32.le_refl _)]
    exact hQ τ _ q hc
  | j + 1, l, s, τ, e, q, hc, hQ => by
    obtain ⟨⟨b1, b2, b3, b4, b5⟩, ⟨t1, c1⟩, ⟨t2, c2⟩, ⟨t3, c3⟩, ⟨t4, c4⟩, ⟨t5, c5⟩, c6, gP, gO, gL, gB, gK, -⟩ := id hT
    have hl8 : l < 8 := by omega
    rw [kpD] at hQ
    rw [bMo_keeps_140, if_neg (by decide), hc, c3, if_neg (nI_ge (by omega) (by omega)), bMo_keeps_151, Mo_isPaper hl8, tl_s, bMo_keeps_159, hc]
    by_cases z1 : c (42 + l) < 0
    · rw [b2i_t z1, if_pos i10, bMo_keeps_189, bMo_keeps_190, Int64.add_zero, nI_1]
      rw [gF_pap z1, show (0 : Int32).toInt64 = 0 from rfl, Int64.add_zero, ite_self] at hQ
      exact Mo_kee_in hT hp j (l + 1) s τ (by omega) q hc hQ
    rw [b2i_f z1, ite_nn rfl, bMo_keeps_162, nI_add, mOut_f (by omega) (by omega), nI_clamp (by omega), hc, if_neg (show ¬ false = true by decide)]
    by_cases z : c (50 + l) = day
    · rw [if_pos z] at hQ
      rw [ite_nn z, bMo_keeps_177]
      refine Mo_getsOf hl8 hp (by rw [hc]; exact c1) b1 (by rw [hc]; exact c4) b4 (fun υ q2 => ?_)
      have hc2 : υ.1 171 = c := by rw [← hc]; exact funext fun k => (q2 171 k rfl).1
      rw [tl_s, bMo_keeps_185, bMo_keeps_190, nI_1, hc]
      exact Mo_kee_in hT hp j (l + 1) _ υ (by omega) (qt_tr q q2) hc2 hQ
    · rw [if_neg z] at hQ
      rw [if_pos z, bMo_keeps_189, bMo_keeps_190, Int64.add_zero, nI_1]
      exact Mo_kee_in hT hp j (l + 1) s τ (by omega) q hc hQ
theorem Mo_kee_2 {E : mEn} {d : Nat} {Q : mPost} {σ σ0 : mSt} {p np no nl nk dy t m : Nat} {c : Nat → Int32} {w : Nat → Int64} {v : Nat → Int64} (hT : TRel σ0 10 c w np no nl nk dy) (hp : p < np) (ht : t < 4) (hm : m ≤ 60) (hv : ∀ i, i < 60 → σ.2 169 (60 * t + i) = v i) : ∀ (j k : Nat) (s : Int64) (u7 : Value) (τ : mSt), k + j = m → qt SDl σ τ → τ.1 171 = c → (∀ υ, qt SDl σ υ → if kpF c v p np nl nk j k s = -1 then Q (some (.int (-1))) (sI υ 166 0 (nI 8)) else Q (some (.int (kpF c v p np nl nk j k s))) υ) → WP E (d + 7) mMo_keeps 131 [.ref 166, .int (nI p), .int (nI t), .int (nI m), .long s, uu, .int (nI k), u7] [] τ Q
  | 0, k, s, u7, τ, e, q, hc, hQ => by
    have e' : k = m := by omega
    subst e'
    rw [bMo_keeps_131, if_pos (Int32.le_refl _), bMo_keeps_227, bMo_refuse_0, tl_s, bMo_keeps_233]
    have := hQ τ q
    rw [kpF, if_pos rfl] at this
    exact this
  | j + 1, k, s, u7, τ, e, q, hc, hQ => by
    rw [kpF] at hQ
    rw [bMo_keeps_131, if_neg (nI_ge (by omega) (by omega)), bMo_keeps_137]
    refine Mo_kee_in hT hp nl 0 s τ (by omega) q hc (fun υ a7 q2 hc2 => ?_)
    generalize kpD c p np nk (nI k) nl 0 s = s2 at hQ ⊢
    rw [bMo_keeps_199, Mo_num ht (by omega), tl_s, bMo_keeps_208, ite_lge, (q2 169 _ rfl).2, hv k (by omega)]
    by_cases z : s2 - v k < 0
    · have hQ2 := hQ υ q2
      rw [if_pos z, if_neg (nI_m1 (by omega))] at hQ2
      rw [if_pos z, bMo_keeps_218]
      exact hQ2
    · rw [if_neg z] at hQ
      rw [if_neg z, bMo_keeps_221, nI_1]
      exact Mo_kee_2 hT hp ht hm hv j (k + 1) _ _ υ (by omega) q2 hc2 hQ
theorem P_keeps {E : mEn} {d : Nat} {σ : mSt} {a b m : Int32} {u1 u3 u4 u5 u6 : Value} (hI : Inv σ) : pairI E (d + 8) mPb_keeps mMo_keeps [.ref 0, .int a, .int b, .int m, u1] [.ref 166, .int a, .int b, .int m, u3, u4, u5, u6] σ := by
  obtain ⟨np, no, nl, nk, dy, hT⟩ := Inv_town hI
  obtain ⟨⟨b1, b2, b3, b4, b5⟩, ⟨t1, c1⟩, ⟨t2, c2⟩, ⟨t3, c3⟩, ⟨t4, c4⟩, ⟨t5, c5⟩, c6, gP, gO, gL, gB, gK, -⟩ := id hT
  have hq : ∀ τ : mSt, qt SQ σ τ → (sI (sI τ 166 1 0) 166 0 0).1 171 = σ.1 171 := fun τ q => funext fun k => (q 171 k rfl).1
  have mp := @mpq E σ np c1 b1
  have ml := @mlq E σ nl c3 b3
  have mk := @mkq E σ nk c4 b4
  have hR : RTr σ := hI.2.2.2.2.2.1
  by_cases hb : mOut b 4 = false
  rotate_left
  · refine pairI_q hI (-1) 1 (fun Q k => ?_) (fun τ q Q k => ?_)
    · rw [bPb_keeps_0, Tr_ex, tl_s, bPb_keeps_8, b2i_f hb, ite_nn rfl, bPb_keeps_11, bPb_refuse_0, tl_s, bPb_keeps_16]
      exact k _ (by repeat' (first | exact qt_rf | assumption | refine qt_sI ?_ rfl | refine qt_sL ?_ rfl)) rfl
    · rw [bMo_keeps_0, Mo_isTray, tl_s, bMo_keeps_15, b2i_f hb, ite_nn rfl, bMo_keeps_18, bMo_refuse_0, tl_s, bMo_keeps_23]
      exact k _ (by repeat' (first | exact qt_rf | assumption | refine qt_sI ?_ rfl | refine qt_sL ?_ rfl)) rfl rfl
  have X0 : ∀ Q : mPost, WP E (d + 8) mPb_keeps 0 [.ref 0, .int a, .int b, .int m, u1] [] σ Q = WP E (d + 8) mPb_keeps 25 [.ref 0, .int a, .int b, .int m, u1] [.int (b2i (mOut a np = false))] σ Q := fun Q => by
    rw [bPb_keeps_0, Tr_ex, tl_s, bPb_keeps_8, b2i_t hb, if_pos i10, bPb_keeps_17, Tw_hasPerson T10 t1 b1, tl_s]
  have Y0 : ∀ (τ : mSt), qt SQ σ τ → ∀ Q : mPost, WP E (d + 8) mMo_keeps 0 [.ref 166, .int a, .int b, .int m, u3, u4, u5, u6] [] τ Q = WP E (d + 8) mMo_keeps 29 [.ref 166, .int a, .int b, .int m, u3, u4, u5, u6] [.int (b2i (mOut a np = false))] (sI (sI τ 166 1 0) 166 0 0) Q := fun τ q Q => by
    rw [bMo_keeps_0, Mo_isTray, tl_s, bMo_keeps_15, b2i_t hb, if_pos i10, bMo_keeps_24, mp τ q, tl_s]
  by_cases ha : mOut a np = false
  rotate_left
  · refine pairI_q hI (-1) (nI 2) (fun Q k => ?_) (fun τ q Q k => ?_)
    · rw [X0, bPb_keeps_25, b2i_f ha, ite_nn rfl, bPb_keeps_28, bPb_refuse_0, tl_s, bPb_keeps_33]
      exact k _ (by repeat' (first | exact qt_rf | assumption | refine qt_sI ?_ rfl | refine qt_sL ?_ rfl)) rfl
    · rw [Y0 τ q, bMo_keeps_29, b2i_f ha, ite_nn rfl, bMo_keeps_32, bMo_refuse_0, tl_s, bMo_keeps_37]
      exact k _ (by repeat' (first | exact qt_rf | assumption | refine qt_sI ?_ rfl | refine qt_sL ?_ rfl)) rfl rfl
  have ha' := ha
  obtain ⟨p, hp, rfl⟩ := mOut_n ha
  obtain ⟨t, ht, rfl⟩ := mOut_n hb
  have e4 := RTr_at hR ht
  have h8 : ∀ τ : mSt, qt SQ σ τ → (sI (sI τ 166 1 0) 166 0 0).1 168 = σ.1 168 := fun τ q => funext fun k => (q 168 k rfl).1
  rcases hR.2.2.2 t ht with hl | ⟨n, hn, hl⟩
  · refine pairI_q hI (-1) (nI 3) (fun Q k => ?_) (fun τ q Q k => ?_)
    · rw [X0, bPb_keeps_25, b2i_t ha', if_pos i10, bPb_keeps_34, Tr_missB ht (e4.trans hl), tl_s, bPb_keeps_42, if_neg i10, bPb_keeps_45, bPb_refuse_0, tl_s, bPb_keeps_50]
      exact k _ (by repeat' (first | exact qt_rf | assumption | refine qt_sI ?_ rfl | refine qt_sL ?_ rfl)) rfl
    · rw [Y0 τ q, bMo_keeps_29, b2i_t ha', if_pos i10, bMo_keeps_38, mOut_f ht (by omega), nI_clamp (by omega), h8 τ q, hl, if_neg (by decide), if_neg (by decide), bMo_keeps_47, bMo_refuse_0, tl_s, bMo_keeps_52]
      exact k _ (by repeat' (first | exact qt_rf | assumption | refine qt_sI ?_ rfl | refine qt_sL ?_ rfl)) rfl rfl
  have X1 : ∀ Q : mPost, WP E (d + 8) mPb_keeps 0 [.ref 0, .int (nI p), .int (nI t), .int m, u1] [] σ Q = if m ≤ nI n then WP E (d + 8) mPb_keeps 69 [.ref 0, .int (nI p), .int (nI t), .int m, u1] [] σ Q else WP E (d + 8) mPb_keeps 63 [.ref 0, .int (nI p), .int (nI t), .int m, u1] [] σ Q := fun Q => by
    rw [X0, bPb_keeps_25, b2i_t ha', if_pos i10, bPb_keeps_34, Tr_missC ht hn (e4.trans hl), tl_s, bPb_keeps_42, if_pos rfl, bPb_keeps_51, Tr_len ht hn (e4.trans hl), tl_s, bPb_keeps_60]
  have Y1 : ∀ (τ : mSt), qt SQ σ τ → ∀ Q : mPost, WP E (d + 8) mMo_keeps 0 [.ref 166, .int (nI p), .int (nI t), .int m, u3, u4, u5, u6] [] τ Q = if m ≤ nI n then WP E (d + 8) mMo_keeps 69 [.ref 166, .int (nI p), .int (nI t), .int m, u3, u4, u5, u6] [] (sI (sI τ 166 1 0) 166 0 0) Q else WP E (d + 8) mMo_keeps 63 [.ref 166, .int (nI p), .int (nI t), .int m, u3, u4, u5, u6] [] (sI (sI τ 166 1 0) 166 0 0) Q := fun τ q Q => by
    rw [Y0 τ q, bMo_keeps_29, b2i_t ha', if_pos i10, bMo_keeps_38, mOut_f ht (by omega), nI_clamp (by omega), h8 τ q, hl, if_neg (by decide), if_pos (nI_pos' (by omega)), bMo_keeps_53, mOut_f ht (by omega), nI_clamp (by omega), h8 τ q, hl, if_neg (by decide)]
  by_cases hmn : m ≤ nI n
  rotate_left
  · refine pairI_q hI (-1) (nI 4) (fun Q k => ?_) (fun τ q Q k => ?_)
    · rw [X1, if_neg hmn, bPb_keeps_63, bPb_refuse_0, tl_s, bPb_keeps_68]
      exact k _ (by repeat' (first | exact qt_rf | assumption | refine qt_sI ?_ rfl | refine qt_sL ?_ rfl)) rfl
    · rw [Y1 τ q, if_neg hmn, bMo_keeps_63, bMo_refuse_0, tl_s, bMo_keeps_68]
      exact k _ (by repeat' (first | exact qt_rf | assumption | refine qt_sI ?_ rfl | refine qt_sL ?_ rfl)) rfl rfl
  rcases sw_cs m 1 60 with ⟨m', m1, m2, rfl⟩ | hne
  rotate_left
  · have m0 : m < 1 := by
      rcases sw_lt (lo := 1) (hi := 60) (by omega) hne with g | g
      · exact Int32.lt_iff_toInt_lt.mpr g
      · exfalso
        rw [Int32.le_iff_toInt_le, nI_toInt (by omega)] at hmn
        omega
    refine pairI_q hI (-1) (nI 5) (fun Q k => ?_) (fun τ q Q k => ?_)
    · rw [X1, if_pos hmn, bPb_keeps_69, if_pos m0, bPb_keeps_89, bPb_refuse_0, tl_s, bPb_keeps_94]
      exact k _ (by repeat' (first | exact qt_rf | assumption | refine qt_sI ?_ rfl | refine qt_sL ?_ rfl)) rfl
    · rw [Y1 τ q, if_pos hmn, bMo_keeps_69, Mo_isIn, tl_s, bMo_keeps_78, b2i_f (isIn_f (l6 := 1) (h6 := 60) (lo := 1) (hi := 60) rfl rfl (by omega) (by omega) hne), ite_nn rfl, bMo_keeps_81, bMo_refuse_0, tl_s, bMo_keeps_86]
      exact k _ (by repeat' (first | exact qt_rf | assumption | refine qt_sI ?_ rfl | refine qt_sL ?_ rfl)) rfl rfl
  have hmn' : m' ≤ n := (nI_leI (by omega) (by omega)).mp hmn
  obtain ⟨V, hV⟩ : ∃ V : Nat → Int64, V = fun i => σ.2 169 (60 * t + i) := ⟨_, rfl⟩
  have hv' : ∀ i, i < n → σ.2 2 (60 * t + i) = V i := fun i _ => by rw [hR.1, hV]
  have hw' : ∀ τ : mSt, qt SQ σ τ → ∀ i, i < 60 → (sI (sI τ 166 1 0) 166 0 0).2 169 (60 * t + i) = V i := fun τ q i _ => by rw [hV]; exact (q 169 _ rfl).2
  have m0 : ¬ nI m' < 1 := nI_nlt (b := 1) m1 (by omega)
  have X2 : ∀ Q : mPost, WP E (d + 8) mPb_keeps 0 [.ref 0, .int (nI p), .int (nI t), .int (nI m'), u1] [] σ Q = WP E (d + 8) mPb_keeps 86 [.ref 0, .int (nI p), .int (nI t), .int (nI m'), u1] [.int (b2i (awP V 999 m'))] σ Q := fun Q => by
    rw [X1, if_pos hmn, bPb_keeps_69, if_neg m0, bPb_keeps_74, Tr_all ht hn (e4.trans hl) hmn' hv', tl_s]
  have Y2 : ∀ (τ : mSt), qt SQ σ τ → ∀ Q : mPost, WP E (d + 8) mMo_keeps 0 [.ref 166, .int (nI p), .int (nI t), .int (nI m'), u3, u4, u5, u6] [] τ Q = WP E (d + 8) mMo_keeps 90 [.ref 166, .int (nI p), .int (nI t), .int (nI m'), .int (nI 0), u4, u5, u6] [] (sI (sI τ 166 1 0) 166 0 0) Q := fun τ q Q => by
    rw [Y1 τ q, if_pos hmn, bMo_keeps_69, Mo_isIn, tl_s, bMo_keeps_78, b2i_t (isIn_t (l6 := 1) (h6 := 60) (lo := 1) (hi := 60) rfl rfl (by omega) m1 m2), if_pos i10, bMo_keeps_87]
    rfl
  by_cases aw : awP V 999 m'
  rotate_left
  · refine pairI_q hI (-1) (nI 5) (fun Q k => ?_) (fun τ q Q k => ?_)
    · rw [X2, bPb_keeps_86, b2i_f aw, ite_nn rfl, bPb_keeps_89, bPb_refuse_0, tl_s, bPb_keeps_94]
      exact k _ (by repeat' (first | exact qt_rf | assumption | refine qt_sI ?_ rfl | refine qt_sL ?_ rfl)) rfl
    · rw [Y2 τ q]
      exact Mo_kee_1 ht m2 (hw' τ q) (fun _ => k _ (by repeat' (first | exact qt_rf | assumption | refine qt_sI ?_ rfl | refine qt_sL ?_ rfl)) rfl rfl) (fun g => absurd g aw) m' 0 (by omega) (fun i hi => absurd hi (by omega))
  refine pairI_q hI (kpF (σ.1 171) V p np nl nk m' 0 0) (if kpF (σ.1 171) V p np nl nk m' 0 0 = -1 then nI 8 else 0) (fun Q k => ?_) (fun τ q Q k => ?_)
  · rw [X2, bPb_keeps_86, b2i_t aw, if_pos i10, bPb_keeps_95, bPb_firstBrokenDay_0]
    refine Sh_gather H61 T10 hT hp (fun υ q g1 g2 => ?_)
    have hT2 := TRel_q q (fun j k hj _ _ => SHx_T H61 T10 hj) hT
    rw [tl_n, bPb_firstBrokenDay_12]
    refine Pb_fbd_loop (v := V) hT2 g1 ht hn (((q 4 t rfl).1).trans (e4.trans hl)) hmn' (fun i hi => by rw [(q 2 _ rfl).2]; exact hv' i hi) m' 0 0 _ (by omega) ?_
    have q' : qt SQ σ υ := qt_mono q (fun o k => SHx_SQ)
    rw [tl_s, bPb_keeps_102]
    by_cases z : kpF (σ.1 171) V p np nl nk m' 0 0 = -1
    · rw [if_pos z, z] at k
      rw [ite_nn z, bPb_keeps_110, bPb_refuse_0, tl_s, bPb_keeps_116, bPb_keeps_125]
      exact k _ (qt_sI q' rfl) rfl
    · rw [if_neg z] at k
      rw [if_pos z, bPb_keeps_119, bPb_answer_0, tl_s, bPb_keeps_125]
      exact k _ (qt_sI q' rfl) rfl
  · rw [Y2 τ q]
    refine Mo_kee_1 ht m2 (hw' τ q) (fun g => absurd aw g) (fun _ a4 => ?_) m' 0 (by omega) (fun i hi => absurd hi (by omega))
    rw [bMo_keeps_125]
    refine Mo_kee_2 (v := V) (σ := sI (sI τ 166 1 0) 166 0 0) hT hp ht m2 (hw' τ q) m' 0 0 _ _ (by omega) qt_rf (hq τ q) (fun υ q2 => ?_)
    have q' : qt SQ τ υ := qt_tr (τ := sI (sI τ 166 1 0) 166 0 0) (by repeat' (first | exact qt_rf | assumption | refine qt_sI ?_ rfl | refine qt_sL ?_ rfl)) (qt_mono q2 (fun o k => SDl_SQ))
    by_cases z : kpF (σ.1 171) V p np nl nk m' 0 0 = -1
    · rw [if_pos z, z] at k
      rw [if_pos z]
      exact k _ (qt_sI q' rfl) rfl (q2 0 10 rfl).1
    · rw [if_neg z] at k
      rw [if_neg z]
      exact k _ q' (q2 166 0 rfl).1 (q2 0 10 rfl).1
