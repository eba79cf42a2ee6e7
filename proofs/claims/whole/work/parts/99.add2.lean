def cV (c : Nat → Int32) (no : Nat) (a : Int32) : Nat → Int32 := upd (upd c (30 + no) a) 1 (nI (no + 1))
theorem Tw_addOven {E : mEn} {d : Nat} {Q : mPost} {σ : mSt} {t np no nl nk dy a : Nat} {c : Nat → Int32} {w : Nat → Int64} {x : Int64} (ht : isT t) (hT : TRel σ t c w np no nl nk dy) (h8 : no < 4) (ha : a ≤ 16) (hx : ¬ x = 0) (z3 : c 322 = 0) (hQ : ∀ υ, qt (STc t) σ υ → TRel υ t (cV c no (nI a)) (updL w (8 + no) x) np (no + 1) nl nk dy → (∀ k, υ.1 (t + 9) k = σ.1 (t + 9) k) → υ.1 t 17 = σ.1 t 17 → Q none υ) : WP E (d + 1) mTw_addOven 0 [.ref t, .long x, uu, .int (nI a)] [] σ Q := by
  obtain ⟨⟨b1, b2, b3, b4, b5⟩, ⟨t1, c1⟩, ⟨t2, c2⟩, ⟨t3, c3⟩, ⟨t4, c4⟩, ⟨t5, c5⟩, ⟨t6, c6⟩, gP, gO, gL, gB, gK, ⟨n1, n2, n3⟩, gD⟩ := hT
  have G := Na_give (E := E) (d := d) (Q := fun r σ' => WP E (d + 1) mTw_addOven 29 [.ref t, .long x, uu, .int (nI a)] (r.toList ++ []) σ' Q) (τ := σ) (t := t) (a := 1) (k := no) (x := x) (u := uu) ht (by omega) (by show 8 + no < 12; omega)
  rw [show nI 1 = 1 from rfl, show nLo 1 + no = 8 + no from rfl, tl_n] at G
  rw [bTw_addOven_0 ht, t2, if_neg (nI_pos (by omega)), bTw_addOven_7 ht, t2, if_pos (nI_lt h8 (by omega)), bTw_addOven_16 ht, t2, G, bTw_addOven_29 ht]
  simp (disch := omega) only [sI_n, sL_r1, t2, mOut_f, nI_clamp, nI_1]
  rw [if_neg (by decide)]
  generalize hυ : sI (sI (sL σ (t + 2) (8 + no) x) (t + 18) no (nI a)) t 14 (nI (no + 1)) = υ
  have r1 : ∀ j k, (j ≠ 0 ∨ k ≠ 14) → (j ≠ 18 ∨ k ≠ no) → υ.1 (t + j) k = σ.1 (t + j) k := fun j k x1 x2 => by
    subst hυ
    simp (disch := omega) only [sI_n, sL_r1]
  have r0 : ∀ k, k ≠ 14 → υ.1 t k = σ.1 t k := fun k x1 => r1 0 k (by omega) (by omega)
  have r2 : ∀ k, υ.2 (t + 2) k = updL (σ.2 (t + 2)) (8 + no) x k := fun k => by
    subst hυ
    show (sL σ (t + 2) (8 + no) x).2 (t + 2) k = _
    by_cases z : k = 8 + no
    · subst z; rw [sL_e, updL_e]
    · rw [sL_n (Or.inr z), updL_n z]
  have ec : ∀ j, j ≠ 1 → j ≠ 30 + no → cV c no (nI a) j = c j := fun j x1 x2 => by unfold cV; rw [upd_n x1, upd_n x2]
  refine hQ υ ?_ ⟨⟨b1, by omega, b3, b4, b5⟩, ⟨?_, ?_⟩, ⟨?_, upd_e⟩, ⟨?_, ?_⟩, ⟨?_, ?_⟩, ⟨?_, ?_⟩, ⟨?_, ?_⟩, fun p hp => ?_, fun k hk => ?_, fun l hl => ?_, ?_, fun k hk => ?_, ⟨?_, ?_, ?_⟩, ?_⟩ (fun k => r1 9 k (by omega) (by omega)) (r0 17 (by omega))
  · subst hυ
    refine qt_sI (qt_sI (qt_sL qt_rf ?_) ?_) ?_ <;> simp only [STc, Bool.and_eq_true, decide_eq_true_eq] <;> omega
  · rw [r0 13 (by omega)]; exact t1
  · rw [ec 0 (by omega) (by omega)]; exact c1
  · subst hυ; exact sI_e
  · rw [r0 15 (by omega)]; exact t3
  · rw [ec 2 (by omega) (by omega)]; exact c3
  · rw [r1 3 8 (by omega) (by omega)]; exact t4
  · rw [ec 3 (by omega) (by omega)]; exact c4
  · rw [r0 16 (by omega)]; exact t5
  · rw [ec 4 (by omega) (by omega)]; exact c5
  · rw [r0 18 (by omega), ec 5 (by omega) (by omega)]; exact t6
  · rw [ec 5 (by omega) (by omega)]; exact c6
  · rw [r1 15 p (by omega) (by omega), r1 16 p (by omega) (by omega), r1 17 p (by omega) (by omega), ec _ (by omega) (by omega), ec _ (by omega) (by omega), ec _ (by omega) (by omega)]
    exact gP p (by omega)
  · by_cases z : k = no
    · subst z
      have e6 : cV c k (nI a) (30 + k) = nI a := by unfold cV; rw [upd_n (by omega), upd_e]
      rw [e6]
      subst hυ
      exact ⟨by rw [sI_n (by omega), sI_e], a, ha, rfl⟩
    · rw [r1 18 k (by omega) (by omega), ec _ (by omega) (by omega)]; exact gO k (by omega)
  · exact LRel_mono (LRel_c (gL l hl) (fun j x1 x2 => r1 j l (by omega) (by omega)) (by rw [r0 17 (by omega)]) (fun i x1 x2 _ => ec i (by omega) (by omega)) (by omega)) (by omega) (by omega)
  · rw [r0 17 (by omega)]; exact gB
  · exact PRel_c (gK k hk) (fun j x1 x2 => r1 j k (by omega) (by omega)) (fun j hj => ec _ (by omega) (by omega))
  · exact NRel_o n1 b1 (by omega) r2
  · exact NRel_s n2 hx h8 r2
  · exact NRel_o n3 b3 (by omega) r2
  · refine ⟨?_, Or.inl ?_⟩
    · rw [r1 12 5 (by omega) (by omega), ec _ (by omega) (by omega)]; exact gD.1
    · rw [ec _ (by omega) (by omega)]; exact z3
def cLo (c : Nat → Int32) (nl : Nat) (bk ov dy sl fl : Int32) : Nat → Int32 := upd (upd (upd (upd (upd (upd (upd c (34 + nl) bk) (42 + nl) ov) (50 + nl) dy) (58 + nl) sl) (66 + nl) fl) (74 + nl) (-1)) 2 (nI (nl + 1))
theorem Tw_addLoaf {E : mEn} {d : Nat} {Q : mPost} {σ : mSt} {t np no nl nk dy bk on sl fl : Nat} {ov : Int32} {c : Nat → Int32} {w : Nat → Int64} {x : Int64} (ht : isT t) (hT : TRel σ t c w np no nl nk dy) (h8 : nl < 8) (hbk : bk < np) (hov : ov = -1 ∨ ∃ k, k < no ∧ ov = nI k) (hon : on ≤ 99) (hs1 : 1 ≤ sl) (hs2 : sl ≤ 99) (hfl : fl ≤ 999) (hx : ¬ x = 0) (z3 : c 322 = 0) (z17 : σ.1 t 17 = 0) (hQ : ∀ υ, qt (STc t) σ υ → TRel υ t (cLo c nl (nI bk) ov (nI on) (nI sl) (nI fl)) (updL w (12 + nl) x) np no (nl + 1) nk dy → (∀ k, υ.1 (t + 9) k = σ.1 (t + 9) k) → υ.1 t 17 = σ.1 t 17 → Q none υ) : WP E (d + 1) mTw_addLoaf 0 [.ref t, .long x, uu, .int (nI bk), .int ov, .int (nI on), .int (nI sl), .int (nI fl)] [] σ Q := by
  obtain ⟨⟨b1, b2, b3, b4, b5⟩, ⟨t1, c1⟩, ⟨t2, c2⟩, ⟨t3, c3⟩, ⟨t4, c4⟩, ⟨t5, c5⟩, ⟨t6, c6⟩, gP, gO, gL, gB, gK, ⟨n1, n2, n3⟩, gD⟩ := hT
  have G := Na_give (E := E) (d := d) (Q := fun r σ' => WP E (d + 1) mTw_addLoaf 38 [.ref t, .long x, uu, .int (nI bk), .int ov, .int (nI on), .int (nI sl), .int (nI fl)] (r.toList ++ []) σ' Q) (τ := σ) (t := t) (a := 2) (k := nl) (x := x) (u := uu) ht (by omega) (by show 12 + nl < 20; omega)
  rw [show nLo 2 + nl = 12 + nl from rfl, tl_n] at G
  rw [bTw_addLoaf_0 ht, t3, if_neg (nI_pos (by omega)), bTw_addLoaf_7 ht, t3, if_neg (nI_ge h8 (by omega)), bTw_addLoaf_16 ht, Tw_hasPerson ht t1 b1, tl_s, bTw_addLoaf_21 ht, b2i_t (mOut_f hbk (by omega)), if_pos i10, bTw_addLoaf_25 ht, t3, G, bTw_addLoaf_38 ht]
  simp (disch := omega) only [sI_n, sL_r1, t3, mOut_f, nI_clamp]
  rw [if_neg (by decide), if_neg (by decide), if_neg (by decide), bTw_addLoaf_70 ht]
  simp (disch := omega) only [sI_n, sL_r1, t3, mOut_f, nI_clamp]
  rw [if_neg (by decide), if_neg (by decide), if_neg (by decide), bTw_addLoaf_102 ht]
  simp (disch := omega) only [sI_n, sL_r1, t3, nI_1]
  generalize hυ : sI (sI (sI (sI (sI (sI (sI (sL σ (t + 2) (12 + nl) x) (t + 19) nl (nI bk)) (t + 20) nl ov) (t + 21) nl (nI on)) (t + 22) nl (nI sl)) (t + 23) nl (nI fl)) (t + 24) nl 0) t 15 (nI (nl + 1)) = υ
  have r1 : ∀ j k, (j ≠ 0 ∨ k ≠ 15) → (j < 19 ∨ 24 < j ∨ k ≠ nl) → υ.1 (t + j) k = σ.1 (t + j) k := fun j k x1 x2 => by
    subst hυ
    simp (disch := omega) only [sI_n, sL_r1]
  have r0 : ∀ k, k ≠ 15 → υ.1 t k = σ.1 t k := fun k x1 => r1 0 k (by omega) (by omega)
  have r2 : ∀ k, υ.2 (t + 2) k = updL (σ.2 (t + 2)) (12 + nl) x k := fun k => by
    subst hυ
    show (sL σ (t + 2) (12 + nl) x).2 (t + 2) k = _
    by_cases z : k = 12 + nl
    · subst z; rw [sL_e, updL_e]
    · rw [sL_n (Or.inr z), updL_n z]
  have ec : ∀ j, j ≠ 2 → j < 34 ∨ 82 ≤ j ∨ (j + 6) % 8 ≠ nl → cLo c nl (nI bk) ov (nI on) (nI sl) (nI fl) j = c j := fun j x1 x2 => by
    unfold cLo
    rw [upd_n x1, upd_n (by omega), upd_n (by omega), upd_n (by omega), upd_n (by omega), upd_n (by omega), upd_n (by omega)]
  refine hQ υ ?_ ⟨⟨b1, b2, by omega, b4, b5⟩, ⟨?_, ?_⟩, ⟨?_, ?_⟩, ⟨?_, upd_e⟩, ⟨?_, ?_⟩, ⟨?_, ?_⟩, ⟨?_, ?_⟩, fun p hp => ?_, fun k hk => ?_, fun l hl => ?_, ?_, fun k hk => ?_, ⟨?_, ?_, ?_⟩, ?_⟩ (fun k => r1 9 k (by omega) (by omega)) (r0 17 (by omega))
  · subst hυ
    refine qt_sI (qt_sI (qt_sI (qt_sI (qt_sI (qt_sI (qt_sI (qt_sL qt_rf ?_) ?_) ?_) ?_) ?_) ?_) ?_) ?_ <;> simp only [STc, Bool.and_eq_true, decide_eq_true_eq] <;> omega
  · rw [r0 13 (by omega)]; exact t1
  · rw [ec 0 (by omega) (by omega)]; exact c1
  · rw [r0 14 (by omega)]; exact t2
  · rw [ec 1 (by omega) (by omega)]; exact c2
  · subst hυ; exact sI_e
  · rw [r1 3 8 (by omega) (by omega)]; exact t4
  · rw [ec 3 (by omega) (by omega)]; exact c4
  · rw [r0 16 (by omega)]; exact t5
  · rw [ec 4 (by omega) (by omega)]; exact c5
  · rw [r0 18 (by omega), ec 5 (by omega) (by omega)]; exact t6
  · rw [ec 5 (by omega) (by omega)]; exact c6
  · rw [r1 15 p (by omega) (by omega), r1 16 p (by omega) (by omega), r1 17 p (by omega) (by omega), ec _ (by omega) (by omega), ec _ (by omega) (by omega), ec _ (by omega) (by omega)]
    exact gP p (by omega)
  · rw [r1 18 k (by omega) (by omega), ec _ (by omega) (by omega)]; exact gO k (by omega)
  · by_cases z : l = nl
    · subst z
      have e1 : cLo c l (nI bk) ov (nI on) (nI sl) (nI fl) (34 + l) = nI bk := by unfold cLo; rw [upd_n (by omega), upd_n (by omega), upd_n (by omega), upd_n (by omega), upd_n (by omega), upd_n (by omega), upd_e]
      have e2 : cLo c l (nI bk) ov (nI on) (nI sl) (nI fl) (42 + l) = ov := by unfold cLo; rw [upd_n (by omega), upd_n (by omega), upd_n (by omega), upd_n (by omega), upd_n (by omega), upd_e]
      have e3 : cLo c l (nI bk) ov (nI on) (nI sl) (nI fl) (50 + l) = nI on := by unfold cLo; rw [upd_n (by omega), upd_n (by omega), upd_n (by omega), upd_n (by omega), upd_e]
      have e4 : cLo c l (nI bk) ov (nI on) (nI sl) (nI fl) (58 + l) = nI sl := by unfold cLo; rw [upd_n (by omega), upd_n (by omega), upd_n (by omega), upd_e]
      have e5 : cLo c l (nI bk) ov (nI on) (nI sl) (nI fl) (66 + l) = nI fl := by unfold cLo; rw [upd_n (by omega), upd_n (by omega), upd_e]
      have e6 : cLo c l (nI bk) ov (nI on) (nI sl) (nI fl) (74 + l) = -1 := by unfold cLo; rw [upd_n (by omega), upd_e]
      have h17 : υ.1 t 17 = 0 := (r0 17 (by omega)).trans z17
      unfold LRel
      rw [e1, e2, e3, e4, e5, e6, h17]
      have nb : ∀ l, l < 8 → ¬ bitOf 0 l := by unfold bitOf; decide
      subst hυ
      refine ⟨⟨?_, bk, hbk, rfl⟩, ⟨?_, hov⟩, ⟨?_, on, hon, rfl⟩, ⟨?_, sl, hs1, hs2, rfl⟩, ⟨?_, fl, hfl, rfl⟩, Or.inl ⟨rfl, nb l h8⟩⟩
      · rw [sI_n (by omega), sI_n (by omega), sI_n (by omega), sI_n (by omega), sI_n (by omega), sI_n (by omega), sI_e]
      · rw [sI_n (by omega), sI_n (by omega), sI_n (by omega), sI_n (by omega), sI_n (by omega), sI_e]
      · rw [sI_n (by omega), sI_n (by omega), sI_n (by omega), sI_n (by omega), sI_e]
      · rw [sI_n (by omega), sI_n (by omega), sI_n (by omega), sI_e]
      · rw [sI_n (by omega), sI_n (by omega), sI_e]
    · exact LRel_c (gL l (by omega)) (fun j x1 x2 => r1 j l (by omega) (by omega)) (by rw [r0 17 (by omega)]) (fun i x1 x2 x3 => ec i (by omega) (by omega)) (by omega)
  · rw [r0 17 (by omega)]
    obtain ⟨y, hy, ey⟩ := gB
    exact ⟨y, by have : 2 ^ (nl + 1) = 2 ^ nl * 2 := Nat.pow_succ 2 nl; omega, ey⟩
  · exact PRel_mono (PRel_c (gK k hk) (fun j x1 x2 => r1 j k (by omega) (by omega)) (fun j hj => ec _ (by omega) (by omega))) (by omega) (by omega)
  · exact NRel_o n1 b1 (by omega) r2
  · exact NRel_o n2 b2 (by omega) r2
  · exact NRel_s n3 hx h8 r2
  · refine ⟨?_, Or.inl ?_⟩
    · rw [r1 12 5 (by omega) (by omega), ec _ (by omega) (by omega)]; exact gD.1
    · rw [ec _ (by omega) (by omega)]; exact z3
