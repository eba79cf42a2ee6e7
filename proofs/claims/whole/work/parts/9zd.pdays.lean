/-! days: the class and the reference -/
theorem TRel_d {S : Nat → Nat → Bool} {σ τ : mSt} {t : Nat} {c c' : Nat → Int32} {w w' : Nat → Int64} {np no nl nk dy : Nat} (h : qt S σ τ) (hS : ∀ j k, j < 25 → j ≠ 10 → j ≠ 11 → j ≠ 12 → j ≠ 13 → j ≠ 14 → S (t + j) k = false) (ec : ∀ i, i < 322 → c' i = c i) (ew : ∀ k, k < 20 → w' k = w k) (hD : DRel τ t c' np no nl) (g : TRel σ t c w np no nl nk dy) : TRel τ t c' w' np no nl nk dy := by
  have e0 : ∀ k, τ.1 t k = σ.1 t k := fun k => (h t k (hS 0 k (by omega) (by omega) (by omega) (by omega) (by omega) (by omega))).1
  have e1 : ∀ j k, j < 25 → j ≠ 10 → j ≠ 11 → j ≠ 12 → j ≠ 13 → j ≠ 14 → τ.1 (t + j) k = σ.1 (t + j) k := fun j k a b d x y z => (h _ _ (hS j k a b d x y z)).1
  have e2 : ∀ k, τ.2 (t + 2) k = σ.2 (t + 2) k := fun k => (h _ _ (hS 2 k (by omega) (by omega) (by omega) (by omega) (by omega) (by omega))).2
  obtain ⟨g1, g2, g3, g4, g5, g6, g7, g8, g9, g10, g11, g12, ⟨n1, n2, n3⟩, -⟩ := g
  obtain ⟨z1, z2, z3, z4, z5⟩ := id g1
  have nn : ∀ lo n top, lo + top ≤ 20 → n ≤ top → NRel σ t w lo n top → NRel τ t w' lo n top := fun lo n top h1 h2 g => ⟨fun k hk => by rw [e2, ew (lo + k) (by omega)]; exact g.1 k hk, fun k h3 h4 => by rw [e2]; exact g.2 k h3 h4⟩
  refine ⟨g1, by rw [e0, ec 0 (by omega)]; exact g2, by rw [e0, ec 1 (by omega)]; exact g3, by rw [e0, ec 2 (by omega)]; exact g4, by rw [e1 3 8 (by omega) (by omega) (by omega) (by omega) (by omega) (by omega), ec 3 (by omega)]; exact g5, by rw [e0, ec 4 (by omega)]; exact g6, by rw [e0, ec 5 (by omega)]; exact g7, fun p hp => ?_, fun k hk => ?_, fun l hl => ?_, by rw [e0]; exact g11, fun k hk => ?_, ⟨nn _ _ _ (by omega) z1 n1, nn _ _ _ (by omega) z2 n2, nn _ _ _ (by omega) z3 n3⟩, hD⟩
  · rw [e1 15 _ (by omega) (by omega) (by omega) (by omega) (by omega) (by omega), e1 16 _ (by omega) (by omega) (by omega) (by omega) (by omega) (by omega), e1 17 _ (by omega) (by omega) (by omega) (by omega) (by omega) (by omega), ec (6 + p) (by omega), ec (14 + p) (by omega), ec (22 + p) (by omega)]; exact g8 p hp
  · rw [e1 18 _ (by omega) (by omega) (by omega) (by omega) (by omega) (by omega), ec (30 + k) (by omega)]; exact g9 k hk
  · exact LRel_c (g10 l hl) (fun j h1 h2 => e1 j l (by omega) (by omega) (by omega) (by omega) (by omega) (by omega)) (by rw [e0]) (fun i h1 h2 _ => ec i (by omega)) (by omega)
  · exact PRel_c (g12 k hk) (fun j h1 h2 => e1 j k (by omega) (by omega) (by omega) (by omega) (by omega) (by omega)) (fun j hj => ec _ (by omega))
theorem Mo_days_cp {E : mEn} {d : Nat} {Q : mPost} {a1 : Int32} {ns : Nat} (hn : ns ≤ 30) : ∀ (j k : Nat) (τ : mSt), k + j = 9 * ns → τ.1 166 24 = nI ns →
    (∀ υ a2, qt (fun o i => o == 171 && decide (324 ≤ i) && decide (i < 600)) τ υ → (∀ i, i < k → υ.1 171 (324 + i) = τ.1 171 (324 + i)) → (∀ i, k ≤ i → i < 9 * ns → υ.1 171 (324 + i) = τ.1 171 (2724 + i)) → WP E d mMo_days 119 [.ref 166, .int a1, .int a2] [] υ Q) → WP E d mMo_days 82 [.ref 166, .int a1, .int (nI k)] [] τ Q
  | 0, k, τ, e, h24, hQ => by
    rw [bMo_days_82, h24, pk_mul, if_pos (nI_le (by omega) (by omega))]
    exact hQ τ _ qt_rf (fun _ _ => rfl) (fun i h1 h2 => absurd h1 (by omega))
  | j + 1, k, τ, e, h24, hQ => by
    rw [bMo_days_82, h24, pk_mul, if_neg (nI_ge (by omega) (by omega)), bMo_days_93, nI_add, nI_add, mOut_f (n := 2724 + k) (by omega) (by omega), mOut_f (n := 324 + k) (by omega) (by omega), if_neg (by decide), if_neg (by decide), nI_clamp (n := 324 + k) (by omega), nI_clamp (n := 2724 + k) (by omega), nI_1]
    refine Mo_days_cp hn j (k + 1) _ (by omega) ((sI_n (Or.inl (by decide))).trans h24) (fun υ a2 q1 g1 g2 => hQ υ a2 (qt_tr (qt_sI qt_rf ?_) q1) (fun i hi => ?_) (fun i h1 h2 => ?_))
    · show ((171 == 171 && decide (324 ≤ 324 + k)) && decide (324 + k < 600)) = true
      rw [Bool.and_eq_true, Bool.and_eq_true]
      exact ⟨⟨rfl, decide_eq_true (by omega)⟩, decide_eq_true (by omega)⟩
    · rw [g1 i (by omega), sI_n (Or.inr (by omega))]
    · by_cases z : i = k
      · subst z; rw [g1 i (by omega), sI_e]
      · rw [g2 i (by omega) h2, sI_n (Or.inr (by omega))]
def SMy (o k : Nat) : Bool := (o == 166 && (k == 0 || k == 1 || (decide (8 ≤ k) && decide (k ≤ 19)) || k == 24)) || (o == 171 && ((decide (322 ≤ k) && decide (k < 600)) || (decide (2400 ≤ k) && decide (k < 3000))))
def SMy2 (o k : Nat) : Bool := (o == 166 && (k == 0 || k == 1 || (decide (8 ≤ k) && decide (k ≤ 19)) || k == 24)) || (o == 171 && decide (2400 ≤ k) && decide (k < 3000))
theorem SMy2_v {o k : Nat} (h : SMy2 o k = true) : SMy o k = true := by
  simp only [SMy2, SMy, Bool.or_eq_true, Bool.and_eq_true, decide_eq_true_eq, beq_iff_eq] at h ⊢; omega
theorem Mo_days {E : mEn} {d : Nat} {Q : mPost} {τ : mSt} {T : Nat → Int32} {w : Nat → Int64} {C F : Nat → Int32} {n m np no nl : Nat} {u2 : Value} (h7 : τ.1 170 = T) (h8 : τ.1 166 8 = nI m) (hm : m ≤ 900) (hn : n ≤ m) (hn3 : n ≤ 300) (hb : ∀ k, isBy (T k)) (hC : ∀ j, τ.1 171 (2400 + j) = C j) (hB : BOk τ 0 w np no nl)
    (h1 : ∀ C' F' ns r q υ, pSq T n w np no nl 31 0 C F 0 0 0 = .ok (C', F', ns, r, q) → qt SMy τ υ → υ.1 166 0 = 0 → υ.1 166 8 = 0 → υ.1 166 10 = 0 → υ.1 166 11 = -1 → υ.1 171 322 = 1 → υ.1 171 323 = nI ns → (∀ i, i < 9 * ns → υ.1 171 (324 + i) = C' (324 + i)) → Q (some (.int (nI ns))) υ)
    (h2 : ∀ e υ, pSq T n w np no nl 31 0 C F 0 0 0 = .error e → qt SMy2 τ υ → υ.1 166 0 = nI 10 → υ.1 166 8 = 0 → υ.1 166 10 = nI e.1 → υ.1 166 11 = nI e.2 → Q (some (.int (-1))) υ) : WP E (d + 13) mMo_days 0 [.ref 166, .int (nI n), u2] [] τ Q := by
  subst h7
  rw [bMo_days_0]
  have q0 : qt SMy2 τ (sI (sI τ 166 1 0) 166 0 0) := qt_sI (qt_sI qt_rf rfl) rfl
  have z0 : (sI (sI τ 166 1 0) 166 0 0).1 166 0 = 0 := rfl
  have z8 : (sI (sI τ 166 1 0) 166 0 0).1 166 8 = nI m := h8
  have z7 : (sI (sI τ 166 1 0) 166 0 0).1 170 = τ.1 170 := rfl
  have zC : ∀ j, (sI (sI τ 166 1 0) 166 0 0).1 171 (2400 + j) = C j := hC
  have zB : BOk (sI (sI τ 166 1 0) 166 0 0) 0 w np no nl := BOk_q (S := fun o _ => o == 166) hB (qt_sI (qt_sI qt_rf rfl) rfl) (fun _ _ => rfl) (fun _ _ => rfl)
  generalize sI (sI τ 166 1 0) 166 0 0 = τ0 at *
  refine Mo_opens z8 hm hn (by omega) (by omega) (by rw [z7]; exact hb) (fun φ q1 g1 i8 => ?_)
  rw [z7] at g1
  rw [tl_s, bMo_days_18, if_pos i10, bMo_days_23]
  have g2 : MOk (sI φ 166 24 0) (τ.1 170) n 0 := MOk_q (S := fun o k => o == 166 && k == 24) g1 (qt_sI qt_rf rfl) (fun _ => rfl) (fun k x1 x2 => by simp only [Bool.and_eq_false_iff, beq_eq_false_iff_ne]; omega)
  have q2 : qt SMy2 τ (sI φ 166 24 0) := qt_sI (qt_tr q0 (qt_mono q1 (fun o k h => by simp only [SOp, SMy2, Bool.or_eq_true, Bool.and_eq_true, decide_eq_true_eq, beq_iff_eq] at h ⊢; omega))) rfl
  have m2 : MC (sI φ 166 24 0) C := fun j => (q1 171 _ rfl).1.trans (zC j)
  have e24 : (sI φ 166 24 0).1 166 24 = nI 0 := rfl
  have B2 : BOk (sI φ 166 24 0) 0 w np no nl := BOk_q (S := fun o _ => o == 166) zB (qt_sI (qt_mono q1 (fun o k h => by simp only [SOp, Bool.and_eq_true] at h; exact h.1.1)) rfl) (fun _ _ => rfl) (fun _ _ => rfl)
  have j0 : (sI φ 166 24 0).1 166 0 = 0 := (q1 166 0 rfl).1.trans z0
  have j8 : (sI φ 166 24 0).1 166 8 = 0 := i8
  generalize sI φ 166 24 0 = φ0 at *
  have nB : ∀ {φ : mSt}, qt SMw φ0 φ → BOk φ 0 w np no nl := fun q => BOk_q B2 q (fun k hk => by simp only [SMw, SMx, S66b, Bool.or_eq_false_iff, Bool.and_eq_false_iff, beq_eq_false_iff_ne, decide_eq_false_iff_not, ne_eq]; omega) (fun k hk => by simp only [SMw, SMx, S66b, Bool.or_eq_false_iff, Bool.and_eq_false_iff, beq_eq_false_iff_ne, decide_eq_false_iff_not, ne_eq]; omega)
  refine Mo_days_loop nB 31 C F 0 0 0 φ0 (by omega) (by omega) g2 m2 e24 qt_rf (fun C' F' ns r q υ ep q3 i12 M3 i24 n30 => ?_) (fun e υ ep q3 g => ?_)
  all_goals
    have i0 : υ.1 166 0 = 0 := (q3 166 0 rfl).1.trans j0
    have i8' : υ.1 166 8 = 0 := (q3 166 8 rfl).1.trans j8
    have q3' : qt SMy2 τ υ := qt_tr q2 (qt_mono q3 (fun o k h => by simp only [SMw, SMx, S66b, SMy2, Bool.or_eq_true, Bool.and_eq_true, decide_eq_true_eq, beq_iff_eq] at h ⊢; omega))
  · have c24 : (sI (sI (sI υ 166 10 0) 166 11 (-1)) 171 322 1).1 166 24 = nI ns := i24
    rw [bMo_days_50, Mo_isWell_o i12, tl_s, bMo_days_54, if_pos i10, bMo_days_59, mOut_f (by omega) (by omega), mOut_f (by omega) (by omega), if_neg (by decide), if_neg (by decide), c24]
    refine Mo_days_cp n30 (9 * ns) 0 _ (by omega) i24 (fun ω a2 q4 x1 x2 => ?_)
    have k24 : ω.1 166 24 = nI ns := (q4 166 24 rfl).1.trans i24
    rw [bMo_days_119, k24]
    have q5 : qt SMy τ (sI (sI (sI (sI υ 166 10 0) 166 11 (-1)) 171 322 1) 171 323 (nI ns)) := qt_sI (qt_sI (qt_sI (qt_sI (qt_mono q3' (fun _ _ => SMy2_v)) rfl) rfl) rfl) rfl
    refine h1 C' F' ns r q ω ep (qt_tr q5 (qt_mono q4 (fun o k h => ?_))) ((q4 166 0 rfl).1.trans i0) ((q4 166 8 rfl).1.trans i8') (q4 166 10 rfl).1 (q4 166 11 rfl).1 (q4 171 322 rfl).1 (q4 171 323 rfl).1 (fun i hi => ?_)
    · simp only [SMy, Bool.or_eq_true, Bool.and_eq_true, decide_eq_true_eq, beq_iff_eq] at h ⊢; omega
    · rw [x2 i (by omega) hi, sI_n (Or.inr (by omega)), sI_n (Or.inr (by omega)), show 2724 + i = 2400 + (324 + i) by omega]
      exact M3 (324 + i)
  · rw [bMo_days_50, Mo_isWell_b g, tl_s, bMo_days_54, ite_nn rfl, bMo_days_57]
    exact h2 e _ ep (qt_sI (qt_sI (qt_sI q3' rfl) rfl) rfl) rfl i8' rfl rfl
theorem P_days {E : mEn} {d : Nat} {σ : mSt} {a : Int32} {u v : Value} (hI : Inv σ) : pairI E (d + 13) mPb_days mMo_days [.ref 0, .int a, u] [.ref 166, .int a, v] σ := by
  obtain ⟨m, hm, h6, h8, h7, hb⟩ := Inv_tape hI
  by_cases a0 : a < 0
  · refine pairI_q hI (-1) (nI 5) (fun Q k => ?_) (fun τ q Q k => ?_)
    · rw [bPb_days_0, if_pos a0, bPb_days_25, bPb_refuse_0, tl_s, bPb_days_30]
      exact k _ (by repeat' (first | exact qt_rf | assumption | refine qt_sI ?_ rfl | refine qt_sL ?_ rfl)) rfl
    · rw [bMo_days_0, bMo_opens_0, if_pos a0, bMo_opens_17, bMo_no_0, tl_s, bMo_opens_22 (Or.inl rfl), tl_s, bMo_days_18, ite_nn rfl, bMo_days_21]
      exact k _ (by repeat' (first | exact qt_rf | assumption | refine qt_sI ?_ rfl | refine qt_sL ?_ rfl)) rfl rfl
  obtain ⟨n, hn, rfl⟩ := nI_all a a0
  by_cases nm : n ≤ m
  rotate_left
  · refine pairI_q hI (-1) (nI 5) (fun Q k => ?_) (fun τ q Q k => ?_)
    · rw [bPb_days_0, if_neg a0, bPb_days_4, h6, if_pos (nI_lt (by omega) hn), bPb_days_25, bPb_refuse_0, tl_s, bPb_days_30]
      exact k _ (by repeat' (first | exact qt_rf | assumption | refine qt_sI ?_ rfl | refine qt_sL ?_ rfl)) rfl
    · rw [bMo_days_0, bMo_opens_0, if_neg a0, bMo_opens_4, show (sI (sI τ 166 1 0) 166 0 0).1 166 8 = nI m from ((q 166 8 rfl).1).trans h8, if_pos (nI_lt (by omega) hn), bMo_opens_17, bMo_no_0, tl_s, bMo_opens_22 (Or.inl rfl), tl_s, bMo_days_18, ite_nn rfl, bMo_days_21]
      exact k _ (by repeat' (first | exact qt_rf | assumption | refine qt_sI ?_ rfl | refine qt_sL ?_ rfl)) rfl rfl
  by_cases n3 : n ≤ 300
  rotate_left
  · refine pairI_q hI (-1) (nI 5) (fun Q k => ?_) (fun τ q Q k => ?_)
    · rw [bPb_days_0, if_neg a0, bPb_days_4, h6, if_neg (nI_nlt nm (by omega)), bPb_days_18, if_neg (nI_ge (by omega) hn), bPb_days_25, bPb_refuse_0, tl_s, bPb_days_30]
      exact k _ (by repeat' (first | exact qt_rf | assumption | refine qt_sI ?_ rfl | refine qt_sL ?_ rfl)) rfl
    · rw [bMo_days_0, bMo_opens_0, if_neg a0, bMo_opens_4, show (sI (sI τ 166 1 0) 166 0 0).1 166 8 = nI m from ((q 166 8 rfl).1).trans h8, if_neg (nI_nlt nm (by omega)), bMo_opens_12, if_neg (nI_ge (by omega) hn), bMo_opens_17, bMo_no_0, tl_s, bMo_opens_22 (Or.inl rfl), tl_s, bMo_days_18, ite_nn rfl, bMo_days_21]
      exact k _ (by repeat' (first | exact qt_rf | assumption | refine qt_sI ?_ rfl | refine qt_sL ?_ rfl)) rfl rfl
  unfold pairI
  have hB : RBo σ := hI.2.2.2.2.1.2.2
  obtain ⟨np, no, nl, nk, dy, hT⟩ := Inv_town hI
  obtain ⟨z1, z2, z3, -, -⟩ := id hT.1
  have S10 : ∀ o k, o < 6 ∨ (10 ≤ o ∧ o < 35) ∨ 60 ≤ o → SDo 35 o k = false := fun o k h => by
    simp only [SDo, SDy, SDt, S9b, S6b, S6o, Bool.or_eq_false_iff, Bool.and_eq_false_iff, decide_eq_false_iff_not, beq_eq_false_iff_ne, ne_eq]; omega
  have nO : ∀ {φ : mSt}, qt (SDo 35) σ φ → NOk φ 10 (σ.2 173) np no nl := fun q => (TRel_N (TRel_q q (fun j k hj _ _ => S10 _ _ (by omega)) hT)).1
  have SRn : ∀ o k, SDo 35 o k = true → SRy o k = true := fun o k h => by
    simp only [SDo, SDy, SDt, S9b, S6b, S6o, Bool.or_eq_true, Bool.and_eq_true, decide_eq_true_eq, beq_iff_eq] at h
    simp only [SRy, Bool.or_eq_true, Bool.and_eq_true, decide_eq_true_eq, beq_iff_eq]; right; omega
  have SMn : ∀ o k, SMy o k = true → SRy o k = true := fun o k h => by
    simp only [SMy, Bool.or_eq_true, Bool.and_eq_true, decide_eq_true_eq, beq_iff_eq] at h
    simp only [SRy, SQ, Bool.or_eq_true, Bool.and_eq_true, decide_eq_true_eq, beq_iff_eq, bne_iff_ne]; omega
  have mk3 : ∀ o k, 91 ≤ o → o < 166 → SRy o k = false := fun o k x1 x2 => by
    simp only [SRy, SQ, Bool.or_eq_false_iff, Bool.and_eq_false_iff, beq_eq_false_iff_ne, decide_eq_false_iff_not, ne_eq, bne_eq_false_iff_eq]; omega
  have fB : ∀ {υ : mSt}, qt (SDo 35) σ υ → RBo υ := fun {υ} q t ht k => by
    rw [(q (t + 9) k (by
      rcases ht with rfl | rfl | rfl | rfl | rfl <;> rfl)).1]; exact hB t ht k
  rw [bPb_days_0, if_neg a0, bPb_days_4, h6, if_neg (nI_nlt nm (by omega)), bPb_days_18, if_pos (nI_le n3 (by omega)), bPb_days_31]
  refine Te_readDays (s := 10) (t := 35) (C := fun j => σ.1 171 (2400 + j)) (w := σ.2 173) T10 T35 z1 h6 hm nm hI.2.2.2.2.2.2.2.2.2.1 nO (fun C' F' ns r q υ ep q1 i2 i9 j10 xF x3 x4 x5 n30 r60 => ?_) (fun e υ ep q1 i2 cb => ?_)
  · rw [tl_s, bPb_days_53, bPb_keepFault_0, tl_n, bPb_days_58, if_pos i10, bPb_days_69, i9, show (sI υ 0 13 0).1 6 10 = -1 from j10]
    have q2 : qt SRy σ (sI (sI υ 0 13 0) 0 14 (-1)) := qt_sI (qt_sI (qt_mono q1 SRn) rfl) rfl
    have kq : ∀ o k, (0 < o ∧ o < 6) ∨ (10 ≤ o ∧ o < 35) ∨ 60 ≤ o → (sI (sI υ 0 13 0) 0 14 (-1)).1 o k = σ.1 o k ∧ (sI (sI υ 0 13 0) 0 14 (-1)).2 o k = σ.2 o k := fun o k h => by
      have := q1 o k (S10 o k (by omega))
      exact ⟨by rw [sI_n (by omega), sI_n (by omega)]; exact this.1, this.2⟩
    have hB1 : RBo (sI (sI υ 0 13 0) 0 14 (-1)) := fun t ht k => by
      have := isT_lt ht
      rw [sI_n (by omega), sI_n (by omega)]; exact fB q1 t ht k
    have k13 : (sI (sI υ 0 13 0) 0 14 (-1)).1 0 13 = 0 := rfl
    have k14 : (sI (sI υ 0 13 0) 0 14 (-1)).1 0 14 = -1 := rfl
    have k62 : (sI (sI υ 0 13 0) 0 14 (-1)).1 6 2 = 0 := i2
    have y3 : (sI (sI υ 0 13 0) 0 14 (-1)).1 (35 + 12) 3 = nI r := x3
    have y4 : (sI (sI υ 0 13 0) 0 14 (-1)).1 (35 + 12) 4 = nI ns := x4
    have y5 : (sI (sI υ 0 13 0) 0 14 (-1)).1 (35 + 12) 5 = 1 := x5
    have yF : (sI (sI υ 0 13 0) 0 14 (-1)).1 (35 + 13) = F' := xF
    generalize sI (sI υ 0 13 0) 0 14 (-1) = υ1 at *
    refine Da_copyOf T10 T35 (by omega) (Or.inr y5) (fun ω q3 w1 w2 => ?_)
    have w4 : ω.1 22 4 = nI ns := (w1 4 (by omega) (by omega)).trans y4
    rw [tl_n, bPb_days_86, w4, bPb_answer_0, tl_s, bPb_days_100]
    refine ⟨nI ns, rfl, ?_⟩
    have q4 : qt SRy σ (sI ω 0 10 0) := qt_sI (qt_tr q2 (qt_mono q3 (fun o k h => by
      simp only [Bool.or_eq_true, beq_iff_eq] at h
      simp only [SRy, Bool.or_eq_true, Bool.and_eq_true, decide_eq_true_eq, beq_iff_eq]; right; omega))) rfl
    have l171 : (sI ω 0 10 0).1 171 = σ.1 171 := (funext fun k => (q3 171 k rfl).1.trans (kq 171 k (by omega)).1)
    have l173 : (sI ω 0 10 0).2 173 = σ.2 173 := (funext fun k => (q3 173 k rfl).2.trans (kq 173 k (by omega)).2)
    have BO : BOk (sI ω 0 10 0) 0 (σ.2 173) np no nl := by
      obtain ⟨-, ⟨-, c0⟩, ⟨-, c1⟩, ⟨-, c2⟩, -⟩ := id hT
      refine ⟨by omega, z1, z2, z3, ?_, ?_, ?_, fun j hj => ?_⟩
      · rw [l171]; exact c0
      · rw [l171]; exact c1
      · rw [l171]; exact c2
      · rw [l173, Nat.mul_zero, Nat.zero_add]
    refine Mo_days (T := σ.1 7) (w := σ.2 173) (C := fun j => σ.1 171 (2400 + j)) (F := σ.1 (35 + 13)) (m := m) ((funext fun k => (q4 170 k rfl).1).trans h7.symm) ?_ hm nm n3 (by rw [h7]; exact hb) (fun j => by rw [l171]) BO (fun C'' F'' ns' r' q' ζ ep' r1 r2 r3 r4 r5 r6 r7 r8 => ?_) (fun e ζ ep' _ _ _ _ _ => ?_)
    · show ω.1 166 8 = nI m
      rw [(q3 166 8 rfl).1, (kq 166 8 (by omega)).1]; exact h8
    · have ec := Except.ok.inj (ep'.symm.trans ep)
      simp only [Prod.mk.injEq] at ec
      obtain ⟨rfl, rfl, rfl, rfl, rfl⟩ := ec
      refine ⟨rfl, ?_⟩
      have Z : qt SRy σ ζ := qt_tr q4 (qt_mono r1 SMn)
      have zω : ∀ o k, o < 166 → o ≠ 0 → ζ.1 o k = ω.1 o k ∧ ζ.2 o k = ω.2 o k := fun o k x1 x2 => by
        have := r1 o k (by simp only [SMy, Bool.or_eq_false_iff, Bool.and_eq_false_iff, beq_eq_false_iff_ne, ne_eq]; omega)
        exact ⟨by rw [this.1, sI_n (by omega)], this.2⟩
      have z171 : ∀ j, j < 322 ∨ (600 ≤ j ∧ j < 2400) → ζ.1 171 j = σ.1 171 j := fun j x1 => by
        rw [(r1 171 j (by simp only [SMy, Bool.or_eq_false_iff, Bool.and_eq_false_iff, beq_eq_false_iff_ne, decide_eq_false_iff_not, ne_eq]; omega)).1, l171]
      have z173 : ∀ j, ζ.2 173 j = σ.2 173 j := fun j => by
        rw [(r1 173 j (by simp only [SMy, Bool.or_eq_false_iff, Bool.and_eq_false_iff, beq_eq_false_iff_ne, ne_eq]; omega)).2, l173]
      refine Inv_Ry hI Z ?_ ⟨?_, ?_⟩ ⟨?_, ?_, ?_, 0, by omega, r3⟩ ⟨(Z 177 0 rfl).1.trans hI.2.2.2.2.1.1, (Z 178 0 rfl).1.trans hI.2.2.2.2.1.2.1, ?_⟩ ?_ ?_
      · rw [(r1 0 10 rfl).1, r2]; rfl
      · rw [(r1 0 13 rfl).1, r4]; exact ((q3 0 13 rfl).1).trans k13
      · rw [(r1 0 14 rfl).1, r5]; exact ((q3 0 14 rfl).1).trans k14
      · exact (funext fun k => (Z 7 k rfl).1).trans (h7.trans (funext fun k => (Z 170 k rfl).1).symm)
      · rw [r3, (zω 6 2 (by omega) (by omega)).1, (q3 6 2 rfl).1]; exact k62
      · intro k; rw [(Z 170 k rfl).1]; exact hb k
      · intro t ht k
        have tl := isT_lt ht
        rw [(zω _ _ (by omega) (by omega)).1, (q3 (t + 9) k (by
          rcases ht with rfl | rfl | rfl | rfl | rfl <;> rfl)).1]
        exact hB1 t ht k
      · exact RMk_x hI.2.2.2.2.2.2.1 Z rfl rfl mk3 (fun j x1 x2 => z171 j (by omega)) (fun j x1 x2 => z173 j)
      · refine ⟨np, no, nl, nk, dy, TRel_d (σ := σ) (S := fun o _ => ! (decide (10 ≤ o) && decide (o < 35)) || o == 22 || o == 23) (fun o k h => ?_) (fun j k hj x1 x2 x3 x4 x5 => ?_) (fun i hi => z171 i (by omega)) (fun k _ => z173 k) ⟨?_, Or.inr ⟨r6, ns', r', n30, r60, r7, ?_, ?_, ?_⟩⟩ hT⟩
        · simp only [Bool.or_eq_false_iff, Bool.not_eq_false', Bool.and_eq_true, decide_eq_true_eq, beq_eq_false_iff_ne] at h
          have a1 := zω o k (by omega) (by omega)
          have a2 := q3 o k (by simp only [Bool.or_eq_false_iff, beq_eq_false_iff_ne]; omega)
          have a3 := kq o k (by omega)
          exact ⟨a1.1.trans (a2.1.trans a3.1), a1.2.trans (a2.2.trans a3.2)⟩
        · simp only [Bool.or_eq_false_iff, Bool.not_eq_false', Bool.and_eq_true, decide_eq_true_eq, beq_eq_false_iff_ne]; omega
        · rw [(zω 22 5 (by omega) (by omega)).1, r6]; exact (w1 5 (by omega) (by omega)).trans y5
        · rw [(zω 22 4 (by omega) (by omega)).1]; exact w4
        · rw [(zω 22 3 (by omega) (by omega)).1]; exact (w1 3 (by omega) (by omega)).trans y3
        · refine seg_cc (σ := fS F'') 31 0 ns' 0 r' (fun k x1 x2 => ?_) (fun j x1 x2 => ?_) (pSq_seg z1 z2 z3 31 0 _ _ _ _ _ _ _ _ _ _ ep)
          · rw [fS_e, (zω (10 + 13) k (by omega) (by omega)).1, w2 k (by omega), yF]
          · obtain ⟨i, rfl⟩ : ∃ i, j = 324 + i := ⟨j - 324, by omega⟩
            exact r8 i (by omega)
    · exact absurd (ep'.symm.trans ep) (by simp)
  · rw [tl_s, bPb_days_53, bPb_keepFault_0, tl_n, bPb_days_58, ite_nn rfl, bPb_days_62, bPb_refuse_0, tl_s, bPb_days_68, cb.1, show (sI υ 0 13 (nI e.1)).1 6 10 = nI e.2 from cb.2.1]
    refine ⟨-1, rfl, ?_⟩
    have q2 : qt SRy σ (sI (sI (sI υ 0 13 (nI e.1)) 0 14 (nI e.2)) 0 10 (nI 10)) := qt_sI (qt_sI (qt_sI (qt_mono q1 SRn) rfl) rfl) rfl
    have hB1 : RBo (sI (sI (sI υ 0 13 (nI e.1)) 0 14 (nI e.2)) 0 10 (nI 10)) := fun t ht k => by
      have := isT_lt ht
      rw [sI_n (by omega), sI_n (by omega), sI_n (by omega)]; exact fB q1 t ht k
    have k10 : (sI (sI (sI υ 0 13 (nI e.1)) 0 14 (nI e.2)) 0 10 (nI 10)).1 0 10 = nI 10 := rfl
    have k13 : (sI (sI (sI υ 0 13 (nI e.1)) 0 14 (nI e.2)) 0 10 (nI 10)).1 0 13 = nI e.1 := rfl
    have k14 : (sI (sI (sI υ 0 13 (nI e.1)) 0 14 (nI e.2)) 0 10 (nI 10)).1 0 14 = nI e.2 := rfl
    have k62 : (sI (sI (sI υ 0 13 (nI e.1)) 0 14 (nI e.2)) 0 10 (nI 10)).1 6 2 = 0 := i2
    have kq : ∀ o k, (0 < o ∧ o < 6) ∨ (10 ≤ o ∧ o < 35) ∨ 60 ≤ o → (sI (sI (sI υ 0 13 (nI e.1)) 0 14 (nI e.2)) 0 10 (nI 10)).1 o k = σ.1 o k ∧ (sI (sI (sI υ 0 13 (nI e.1)) 0 14 (nI e.2)) 0 10 (nI 10)).2 o k = σ.2 o k := fun o k h => by
      have := q1 o k (S10 o k (by omega))
      exact ⟨by rw [sI_n (by omega), sI_n (by omega), sI_n (by omega)]; exact this.1, this.2⟩
    generalize sI (sI (sI υ 0 13 (nI e.1)) 0 14 (nI e.2)) 0 10 (nI 10) = υ1 at *
    have l171 : υ1.1 171 = σ.1 171 := funext fun k => (kq 171 k (by omega)).1
    have l173 : υ1.2 173 = σ.2 173 := funext fun k => (kq 173 k (by omega)).2
    have BO : BOk υ1 0 (σ.2 173) np no nl := by
      obtain ⟨-, ⟨-, c0⟩, ⟨-, c1⟩, ⟨-, c2⟩, -⟩ := id hT
      refine ⟨by omega, z1, z2, z3, ?_, ?_, ?_, fun j hj => ?_⟩
      · rw [l171]; exact c0
      · rw [l171]; exact c1
      · rw [l171]; exact c2
      · rw [l173, Nat.mul_zero, Nat.zero_add]
    refine Mo_days (T := σ.1 7) (w := σ.2 173) (C := fun j => σ.1 171 (2400 + j)) (F := σ.1 (35 + 13)) (m := m) ((funext fun k => (q2 170 k rfl).1).trans h7.symm) ((kq 166 8 (by omega)).1.trans h8) hm nm n3 (by rw [h7]; exact hb) (fun j => by rw [l171]) BO (fun C'' F'' ns' r' q' ζ ep' _ _ _ _ _ _ _ _ => ?_) (fun e' ζ ep' r1 r2 r3 r4 r5 => ?_)
    · exact absurd (ep'.symm.trans ep) (by simp)
    · obtain rfl : e' = e := Except.error.inj (ep'.symm.trans ep)
      refine ⟨rfl, ?_⟩
      have Z : qt SRy σ ζ := qt_tr q2 (qt_mono r1 (fun o k h => SMn o k (SMy2_v h)))
      have zω : ∀ o k, o < 166 → ζ.1 o k = υ1.1 o k ∧ ζ.2 o k = υ1.2 o k := fun o k x1 => r1 o k (by simp only [SMy2, Bool.or_eq_false_iff, Bool.and_eq_false_iff, beq_eq_false_iff_ne, ne_eq]; omega)
      have z171 : ∀ j, j < 2400 → ζ.1 171 j = σ.1 171 j := fun j x1 => by
        rw [(r1 171 j (by simp only [SMy2, Bool.or_eq_false_iff, Bool.and_eq_false_iff, beq_eq_false_iff_ne, decide_eq_false_iff_not, ne_eq]; omega)).1, l171]
      have z173 : ∀ j, ζ.2 173 j = σ.2 173 j := fun j => by
        rw [(r1 173 j (by simp only [SMy2, Bool.or_eq_false_iff, Bool.and_eq_false_iff, beq_eq_false_iff_ne, ne_eq]; omega)).2, l173]
      refine Inv_Ry hI Z ?_ ⟨?_, ?_⟩ ⟨?_, ?_, ?_, 0, by omega, r3⟩ ⟨(Z 177 0 rfl).1.trans hI.2.2.2.2.1.1, (Z 178 0 rfl).1.trans hI.2.2.2.2.1.2.1, ?_⟩ ?_ ?_
      · rw [(zω 0 10 (by omega)).1, r2, k10]
      · rw [(zω 0 13 (by omega)).1, r4, k13]
      · rw [(zω 0 14 (by omega)).1, r5, k14]
      · exact (funext fun k => (Z 7 k rfl).1).trans (h7.trans (funext fun k => (Z 170 k rfl).1).symm)
      · rw [r3, (zω 6 2 (by omega)).1, k62]
      · intro k; rw [(Z 170 k rfl).1]; exact hb k
      · intro t ht k
        have tl := isT_lt ht
        rw [(zω _ _ (by omega)).1]; exact hB1 t ht k
      · exact RMk_x hI.2.2.2.2.2.2.1 Z rfl rfl mk3 (fun j x1 x2 => z171 j x2) (fun j x1 x2 => z173 j)
      · refine ⟨np, no, nl, nk, dy, TRel_x (TRel_q (σ := σ) (S := fun o k => ! (decide (10 ≤ o) && decide (o < 35))) (fun o k h => ?_) (fun j k hj _ _ => ?_) hT) (fun j hj => z171 j (by omega)) (fun j hj => z173 j)⟩
        · simp only [Bool.not_eq_false', Bool.and_eq_true, decide_eq_true_eq] at h
          have a1 := zω o k (by omega)
          have a2 := kq o k (by omega)
          exact ⟨a1.1.trans a2.1, a1.2.trans a2.2⟩
        · simp only [Bool.not_eq_false', Bool.and_eq_true, decide_eq_true_eq]; omega
