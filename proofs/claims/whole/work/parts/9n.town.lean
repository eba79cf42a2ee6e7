theorem GB_tn {a b c : mSt} {t : Nat} (h1 : GB a b t) (h2 : GB b c t) : GB a c t := fun k => by
  rcases h2 k with g | g
  · rcases h1 k with f | f
    · exact Or.inl (g.trans f)
    · rw [g]; exact Or.inr f
  · exact Or.inr g
theorem kd_end {T : Nat → Int32} {n q : Nat} (h : n ≤ q) : kd T n q = 0 := by
  unfold kd
  rw [if_pos (Nat.le_trans h pl_ge)]
theorem COk_le {τ : mSt} {T : Nat → Int32} {n q : Nat} (h : COk τ T n q) : q ≤ n ∧ n ≤ 900 := ⟨h.2.2.2.2.2.1, h.2.2.2.2.2.2.1⟩
theorem Te_town_loop {E : mEn} {d : Nat} {Q : mPost} {σ : mSt} {T : Nat → Int32} {n : Nat} {a2 : Int32} : ∀ (f i q : Nat) (c : Nat → Int32) (w : Nat → Int64) (τ : mSt), i + f = 900 → n ≤ q + f → COk τ T n q → DR τ c w → qt SRd σ τ → GB σ τ 35 →
    (∀ c' w' υ, pTown T n f c w q = .ok (c', w') → qt SRd σ υ → GB σ υ 35 → υ.1 6 9 = 0 → υ.1 6 10 = -1 → DR υ c' w' → Q (some (.int 1)) υ) →
    (∀ e υ, pTown T n f c w q = .error e → qt SRd σ υ → GB σ υ 35 → CBad υ e → Q (some (.int 0)) υ) → WP E (d + 6) mTe_readTown 14 [.ref 5, .ref 35, .int a2, .int (nI i)] [] τ Q := by
  intro f
  induction f with
  | zero =>
    intro i q c w τ e hq h hD qs gb h1 h2
    rw [bTe_readTown_14 T35, if_pos (nI_le (by omega) (by omega)), bTe_readTown_125 T35, h.1, ite_nn rfl, bTe_readTown_135 T35, bTe_readTown_140 T35 (Or.inr rfl)]
    exact h1 c w τ rfl qs gb h.1 h.2.2.2.2.2.2.2 hD
  | succ f ih =>
    intro i q c w τ e hq h hD qs gb h1 h2
    rw [bTe_readTown_14 T35, if_neg (nI_ge (by omega) (by omega)), bTe_readTown_21 T35, To_goesOn h, tl_s, bTe_readTown_28 T35]
    unfold pTown at h1 h2
    by_cases z : kd T n q = 0
    · rw [if_pos z] at h1
      rw [b2i_f (fun g => g z), if_pos rfl, bTe_readTown_125 T35, h.1, ite_nn rfl, bTe_readTown_135 T35, bTe_readTown_140 T35 (Or.inr rfl)]
      exact h1 c w τ rfl qs gb h.1 h.2.2.2.2.2.2.2 hD
    rw [if_neg z] at h1 h2
    rw [b2i_t z, if_neg i10, bTe_readTown_31 T35, To_wordHere h, tl_s]
    have good : ∀ c' w' q' υ, pAny T n c w q = .ok (c', w', q') → qt SRd τ υ → COk υ T n q' → DR υ c' w' → GB τ υ 35 → WP E (d + 6) mTe_readTown 119 [.ref 5, .ref 35, .int a2, .int (nI i)] [] υ Q := fun c' w' q' υ ea q1 g1 g2 g3 => by
      rw [ea] at h1 h2
      dsimp only at h1 h2
      have lt : q < q' := pAny_lt ea
      rw [bTe_readTown_119 T35, nI_1]
      exact ih (i + 1) q' c' w' υ (by omega) (by omega) g1 g2 (qt_tr qs q1) (GB_tn gb g3) h1 h2
    have bad : ∀ e υ, pAny T n c w q = .error e → qt SRd τ υ → CBad υ e → GB τ υ 35 → WP E (d + 6) mTe_readTown 119 [.ref 5, .ref 35, .int a2, .int (nI i)] [] υ Q := fun e υ ea q1 g1 g3 => by
      rw [ea] at h2
      dsimp only at h2
      have fin : WP E (d + 6) mTe_readTown 125 [.ref 5, .ref 35, .int a2, .int (nI (i + 1))] [] υ Q := by
        rw [bTe_readTown_125 T35, if_pos (CBad_n g1), bTe_readTown_139 T35, bTe_readTown_140 T35 (Or.inl rfl)]
        exact h2 e υ rfl (qt_tr qs q1) (GB_tn gb g3) g1
      rw [bTe_readTown_119 T35, nI_1, bTe_readTown_14 T35]
      by_cases y : 900 ≤ i + 1
      · rw [if_pos (nI_le y (by omega))]; exact fin
      · rw [if_neg (nI_ge (by omega) (by omega)), bTe_readTown_21 T35, To_goesOn_b (CBad_n g1), tl_s, bTe_readTown_28 T35, if_pos rfl]; exact fin
    have gk : ∀ {υ : mSt}, (∀ k, υ.1 44 k = τ.1 44 k) → GB τ υ 35 := fun g k => Or.inl (g k)
    by_cases y0 : isW T n q 0 = true
    · have ea : pAny T n c w q = pPerson T n c w q := if_pos y0
      rw [wH_k (by omega) y0, bTe_readTown_38_s0, bTe_readTown_80 T35]
      refine Te_readPerson h y0 hD (fun c' w' q' e1 υ q1 g1 g2 g3 => ?_) (fun e e1 υ q1 g1 g3 => ?_)
      · rw [tl_n, bTe_readTown_85 T35]; exact good c' w' q' υ (ea.trans e1) q1 g1 g2 (gk g3)
      · rw [tl_n, bTe_readTown_85 T35]; exact bad e υ (ea.trans e1) q1 g1 (gk g3)
    by_cases y2 : isW T n q 2 = true
    · have ea : pAny T n c w q = pOven T n c w q := by unfold pAny; rw [if_neg y0, if_pos y2]
      rw [wH_k (by omega) y2, bTe_readTown_38_s2, bTe_readTown_88 T35]
      refine Te_readOven h y2 hD (fun c' w' q' e1 υ q1 g1 g2 g3 => ?_) (fun e e1 υ q1 g1 g3 => ?_)
      · rw [tl_n, bTe_readTown_93 T35]; exact good c' w' q' υ (ea.trans e1) q1 g1 g2 (gk g3)
      · rw [tl_n, bTe_readTown_93 T35]; exact bad e υ (ea.trans e1) q1 g1 (gk g3)
    by_cases y4 : isW T n q 4 = true
    · have ea : pAny T n c w q = pLoaf T n c w q := by unfold pAny; rw [if_neg y0, if_neg y2, if_pos y4]
      rw [wH_k (by omega) y4, bTe_readTown_38_s4, bTe_readTown_96 T35]
      refine Te_readLoaf h y4 hD (fun c' w' q' e1 υ q1 g1 g2 g3 => ?_) (fun e e1 υ q1 g1 g3 => ?_)
      · rw [tl_n, bTe_readTown_101 T35]; exact good c' w' q' υ (ea.trans e1) q1 g1 g2 (gk g3)
      · rw [tl_n, bTe_readTown_101 T35]; exact bad e υ (ea.trans e1) q1 g1 (gk g3)
    by_cases y10 : isW T n q 10 = true
    · have ea : pAny T n c w q = pTP T n c w q := by unfold pAny; rw [if_neg y0, if_neg y2, if_neg y4, if_pos y10]
      rw [wH_k (by omega) y10, bTe_readTown_38_s10, bTe_readTown_104 T35]
      refine Te_readTownPromise h hD (fun c' w' q' e1 υ q1 g1 g2 g3 => ?_) (fun e e1 υ q1 g1 g3 => ?_)
      · rw [tl_n, bTe_readTown_109 T35]; exact good c' w' q' υ (ea.trans e1) q1 g1 g2 g3
      · rw [tl_n, bTe_readTown_109 T35]; exact bad e υ (ea.trans e1) q1 g1 g3
    have ea : pAny T n c w q = .error (er T n q) := by unfold pAny; rw [if_neg y0, if_neg y2, if_neg y4, if_neg y10]
    rw [bTe_readTown_38_sD (fun g => y0 (wH_i (by omega) g)) (fun g => y2 (wH_i (by omega) g)) (fun g => y4 (wH_i (by omega) g)) (fun g => y10 (wH_i (by omega) g)), bTe_readTown_112 T35]
    refine To_misplaced h (fun υ q1 g => ?_)
    rw [tl_n]
    exact bad _ υ ea (qt_mono q1 (fun o k => S6b_R)) g (fun k => Or.inl (q1 44 k rfl).1)
