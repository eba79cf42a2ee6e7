/-! live: what a step does -/
abbrev lvS : Type := (Nat → Int32) × (Nat → Int32)
def cN (c : Nat → Int32) (i : Nat) : Nat := (c i).toNatClampNeg
theorem upd_u {f : Nat → Int32} {k : Nat} {a b : Int32} : upd (upd f k a) k b = upd f k b := by
  funext x
  by_cases h : x = k
  · subst h; rw [upd_e, upd_e]
  · rw [upd_n h, upd_n h, upd_n h]
def dwN (r : Int32) : Int32 := rmI (r * nI 2803 + nI 10607) 65536
def dwV (r : Int32) : Int32 := rmI (dwN r / nI 8) (nI 16)
/-- the ovens on a new day: which are wet, the random number behind them -/
def woF (c : Nat → Int32) : Nat → Nat → Int32 × Int32 → Int32 × Int32
  | 0, _, s => s
  | j + 1, o, s => woF c j (o + 1) (if dwV s.2 < c (30 + o) then s.1 ||| (1 <<< (nI o &&& 31)) else s.1, dwN s.2)
theorem woF_b {c : Nat → Int32} : ∀ (j o : Nat) (s : Int32 × Int32), o + j ≤ 8 → (∃ x, x < 2 ^ o ∧ s.1 = nI x) → ∃ y, y < 2 ^ (o + j) ∧ (woF c j o s).1 = nI y
  | 0, o, s, _, h => h
  | j + 1, o, s, hj, ⟨x, hx, ex⟩ => by
    rw [woF, show o + (j + 1) = o + 1 + j by omega]
    have e2 : 2 ^ (o + 1) = 2 ^ o + 2 ^ o := by rw [Nat.pow_succ]; omega
    refine woF_b j (o + 1) _ (by omega) ?_
    by_cases z : dwV s.2 < c (30 + o)
    · rw [if_pos z, ex, bs3 (by omega) hx]
      exact ⟨x + 2 ^ o, by omega, rfl⟩
    · rw [if_neg z]
      exact ⟨x, by omega, ex⟩
def waD (no : Nat) (S : lvS) : lvS := (upd (upd S.1 4 (S.1 4 + 1)) 5 (woF S.1 no 0 (0, S.2 39)).1, upd S.2 39 (woF S.1 no 0 (0, S.2 39)).2)
def waF (no : Nat) : Nat → lvS → lvS
  | 0, S => S
  | j + 1, S => if S.1 4 < nI 99 then waF no j (waD no S) else S
def dsF (np no : Nat) (S : lvS) (w : Nat) : lvS × Int32 :=
  if S.1 w = 0 then (if S.1 3 = nI 40 ∨ ¬ S.1 (74 + cN S.1 (w + 2)) < 0 then (S, 0) else ((mkF S.1 (cN S.1 3) (S.1 (w + 1)) (S.1 (w + 2)) (cN S.1 (w + 3)) (cN S.1 (w + 4)) (S.1 (w + 5)), S.2), 1))
  else if S.1 w = 1 then (if cN S.1 (w + 1) < cN S.1 3 ∧ S.1 (82 + 6 * cN S.1 (w + 1) + 5) = 0 ∧ S.1 (74 + (S.1 (82 + 6 * cN S.1 (w + 1) + 1)).toNatClampNeg) < 0 then ((brG S.1 (cN S.1 (w + 1)), S.2), 1) else (S, 0))
  else if S.1 w = nI 2 then (if bkOk S.1 (cN S.1 (w + 1)) then ((bkF S.1 (cN S.1 (w + 1)) np (cN S.1 3) (b2i (wtP S.1 (S.1 (42 + cN S.1 (w + 1))))), upd (upd S.2 42 (S.2 42 + cF S.1 (cN S.1 (w + 1)) (b2i (wtP S.1 (S.1 (42 + cN S.1 (w + 1))))))) 44 (S.2 44 + b2i (wtP S.1 (S.1 (42 + cN S.1 (w + 1)))))), 1) else (S, 0))
  else if S.1 w = nI 3 then (waF no (cN S.1 (w + 1)) S, if S.1 4 < nI 99 then 1 else 0)
  else if S.1 w = nI 5 then (if cN S.1 (w + 1) ≠ cN S.1 (w + 2) ∧ S.1 (w + 3) ≤ S.1 (6 + cN S.1 (w + 1)) then ((payF S.1 (cN S.1 (w + 1)) (cN S.1 (w + 2)) (S.1 (w + 3)), S.2), 1) else (S, 0))
  else ((eatF S.1 (cN S.1 (w + 1)) (S.1 (w + 2)), upd S.2 43 (S.2 43 + eatM S.1 (cN S.1 (w + 1)) (S.1 (w + 2)))), if eatM S.1 (cN S.1 (w + 1)) (S.1 (w + 2)) ≤ 0 then 0 else 1)
/-- what a life has counted: the class's at v -/
def LR (v : Nat) (k : Nat → Int32) (τ : mSt) : Prop := τ.1 v 2 = k 39 ∧ τ.1 v 3 = k 40 ∧ τ.1 v 4 = k 41 ∧ τ.1 v 5 = k 42 ∧ τ.1 v 6 = k 43 ∧ τ.1 v 7 = k 44 ∧ τ.1 v 8 = k 45
def SLd (t v o k : Nat) : Bool := STn t o k || (o == v && decide (2 ≤ k)) || (decide (v + 1 ≤ o) && decide (o ≤ v + 7))
def isT2 (τ : mSt) (t : Nat) (c : Nat → Int32) (w : Nat → Int64) (np no nl : Nat) : Prop := ∃ nk dy, TRel τ t c w np no nl nk dy
theorem isV_bd {v : Nat} (hv : isV v) : 73 ≤ v ∧ v + 8 ≤ 90 ∧ isH (v + 1) := by
  rcases hv with rfl | rfl
  · exact ⟨by omega, by omega, Or.inr (Or.inl rfl)⟩
  · exact ⟨by omega, by omega, Or.inr (Or.inr rfl)⟩
theorem STn_Ld {t v o k : Nat} (h : STn t o k = true) : SLd t v o k = true := by simp only [SLd, h, Bool.true_or]
theorem v_Ld {t v k : Nat} (h : 2 ≤ k) : SLd t v v k = true := by simp [SLd, h]
theorem SHs_Ld {t v o k : Nat} (h : SHs (v + 1) o k = true) : SLd t v o k = true := by
  simp only [SHs, SLd, Bool.or_eq_true, Bool.and_eq_true, decide_eq_true_eq] at h ⊢
  omega
theorem LR_q {S : Nat → Nat → Bool} {v : Nat} {k : Nat → Int32} {σ τ : mSt} (q : qt S σ τ) (hS : ∀ i, S v i = false) (h : LR v k σ) : LR v k τ := by
  have e : ∀ i, τ.1 v i = σ.1 v i := fun i => (q v i (hS i)).1
  unfold LR at h ⊢
  rw [e, e, e, e, e, e, e]; exact h
theorem STn_v {t v k : Nat} (ht : isT t) (hv : isV v) : STn t v k = false := by
  have := isT_lt ht
  have := isV_bd hv
  simp only [STn, Bool.and_eq_false_iff, decide_eq_false_iff_not]
  omega
theorem SHs_v {v k : Nat} : SHs (v + 1) v k = false := by
  simp only [SHs, Bool.and_eq_false_iff, decide_eq_false_iff_not]
  omega
theorem Da_cellD {E : mEn} {d : Nat} {σ : mSt} {Q : mPost} {t r j : Nat} {x : Int32} (ht : isT t) (hr : r < 60) (hj : j < 7) (hx : x = nI j) : WP E d mDa_cell 0 [.ref (t + 12), .int (nI r), .int x] [] σ Q = Q (some (.int (σ.1 (t + 13) (r * 7 + j)))) σ := by
  subst hx
  rw [bDa_cell_0 ht, if_neg (nI_pos (by omega)), bDa_cell_4 ht, if_neg (nI_ge (by omega) (by omega)), bDa_cell_10 ht, if_neg (nI_pos (by omega)), bDa_cell_14 ht, if_pos (nI_lt (by omega) (by omega)), bDa_cell_22 ht, pk_mul, nI_add, mOut_f (by omega) (by omega), nI_clamp (by omega), if_neg (by decide)]
theorem Li_nextDraw {E : mEn} {d : Nat} {σ : mSt} {Q : mPost} {v : Nat} {r : Int32} (hv : isV v) (h : σ.1 v 2 = r) : WP E d mLi_nextDraw 0 [.ref v] [] σ Q = Q (some (.int (dwV r))) (sI σ v 2 (dwN r)) := by
  rw [bLi_nextDraw_0 hv, if_neg (by decide), sI_e, h]; rfl
theorem Mo_draw {E : mEn} {d : Nat} {σ : mSt} {Q : mPost} {r : Int32} (h : σ.1 166 39 = r) : WP E d mMo_draw 0 [.ref 166] [] σ Q = Q (some (.int (dwV r))) (sI σ 166 39 (dwN r)) := by
  rw [bMo_draw_0, if_neg (by decide), sI_e, h]; rfl
def S18 (t v o k : Nat) : Bool := (o == t && k == 18) || (o == v && k == 2)
theorem Li_wo_loop {E : mEn} {d : Nat} {Q : mPost} {t v no : Nat} {c : Nat → Int32} {a2 a3 : Int32} (ht : isT t) (hv : isV v) (hno : no ≤ 4) : ∀ (j o : Nat) (s : Int32 × Int32) (τ : mSt), o + j = no → τ.1 t 14 = nI no → (∀ x, x < no → τ.1 (t + 18) x = c (30 + x)) → τ.1 t 18 = s.1 → τ.1 v 2 = s.2 → (∀ υ a4, qt (S18 t v) τ υ → υ.1 t 18 = (woF c j o s).1 → υ.1 v 2 = (woF c j o s).2 → WP E (d + 1) mLi_hasWaited 87 [.ref v, .ref t, .int a2, .int a3, .int a4] [] υ Q) → WP E (d + 1) mLi_hasWaited 45 [.ref v, .ref t, .int a2, .int a3, .int (nI o)] [] τ Q
  | 0, o, s, τ, e, h14, h18, h1, h2, hQ => by
    have e' : o = no := by omega
    subst e'
    rw [bLi_hasWaited_45 ht hv, h14, if_pos (Int32.le_refl _)]
    exact hQ τ _ qt_rf h1 h2
  | j + 1, o, s, τ, e, h14, h18, h1, h2, hQ => by
    have tb := isT_lt ht
    have vb := isV_bd hv
    have IH := Li_wo_loop (E := E) (d := d) (Q := Q) (c := c) (a2 := a2) (a3 := a3) ht hv hno j (o + 1)
    rw [woF] at hQ
    rw [bLi_hasWaited_45 ht hv, h14, if_neg (nI_ge (by omega) (by omega)), bLi_hasWaited_54 ht hv, Li_nextDraw hv h2, tl_s, bLi_hasWaited_58 ht hv, mOut_f (by omega) (by omega), nI_clamp (by omega), sI_n (by omega), h18 o (by omega), if_neg (by decide)]
    by_cases z : dwV s.2 < c (30 + o)
    · rw [if_pos z] at hQ
      rw [if_neg (Int32.not_le.mpr z), bLi_hasWaited_68 ht hv, sI_n (by omega), h1, bLi_hasWaited_81 ht hv, nI_1]
      refine IH (s.1 ||| (1 <<< (nI o &&& 31)), dwN s.2) _ (by omega) ?_ (fun x hx => ?_) sI_e ?_ (fun υ a4 q => hQ υ a4 (qt_tr (qt_sI (qt_sI qt_rf (by simp [S18])) (by simp [S18])) q))
      · simp (disch := omega) only [sI_n]; exact h14
      · simp (disch := omega) only [sI_n]; exact h18 x hx
      · simp (disch := omega) only [sI_n, sI_e]
    · rw [if_neg z] at hQ
      rw [if_pos (Int32.not_lt.mp z), bLi_hasWaited_81 ht hv, nI_1]
      refine IH (s.1, dwN s.2) _ (by omega) ?_ (fun x hx => ?_) ?_ sI_e (fun υ a4 q => hQ υ a4 (qt_tr (qt_sI qt_rf (by simp [S18])) q))
      · simp (disch := omega) only [sI_n]; exact h14
      · simp (disch := omega) only [sI_n]; exact h18 x hx
      · simp (disch := omega) only [sI_n]; exact h1
/-- a town on its next day -/
theorem TRel_day {σ τ : mSt} {t np no nl nk dy : Nat} {c : Nat → Int32} {w : Nat → Int64} {wet : Int32} (hT : TRel σ t c w np no nl nk dy) (hd : dy + 1 ≤ 99) (hw : ∃ x, x < 16 ∧ wet = nI x) (h0 : ∀ k, k ≠ 16 → k ≠ 18 → τ.1 t k = σ.1 t k) (h1 : ∀ j k, 1 ≤ j → j < 25 → τ.1 (t + j) k = σ.1 (t + j) k) (h2 : ∀ k, τ.2 (t + 2) k = σ.2 (t + 2) k) (h16 : τ.1 t 16 = nI (dy + 1)) (h18 : τ.1 t 18 = wet) : TRel τ t (upd (upd c 4 (c 4 + 1)) 5 wet) w np no nl nk (dy + 1) := by
  obtain ⟨⟨b1, b2, b3, b4, b5⟩, ⟨t1, c1⟩, ⟨t2, c2⟩, ⟨t3, c3⟩, ⟨t4, c4⟩, ⟨t5, c5⟩, c6, gP, gO, gL, gB, gK, -⟩ := id hT
  have eo : ∀ i, i ≠ 4 → i ≠ 5 → upd (upd c 4 (c 4 + 1)) 5 wet i = c i := fun i x y => by rw [upd_n y, upd_n x]
  refine TRel_c hT b4 hd ⟨h0 _ (by omega) (by omega), h0 _ (by omega) (by omega), h0 _ (by omega) (by omega)⟩ ⟨eo _ (by omega) (by omega), eo _ (by omega) (by omega), eo _ (by omega) (by omega)⟩ ⟨(h1 3 8 (by omega) (by omega)).trans t4, (eo 3 (by omega) (by omega)).trans c4⟩ ⟨h16, by rw [upd_n (by omega), upd_e, c5, nI_1]⟩ ⟨by rw [upd_e]; exact h18, by rw [upd_e]; exact hw⟩ (fun p hp => ?_) (fun k hk => ⟨h1 18 k (by omega) (by omega), eo _ (by omega) (by omega)⟩) (fun l hl => LRel_c (gL l hl) (fun j j1 j2 => h1 j _ (by omega) (by omega)) (by rw [h0 17 (by omega) (by omega)]) (fun i i1 i2 _ => eo i (by omega) (by omega)) (by omega)) (by rw [h0 17 (by omega) (by omega)]; exact gB) (fun k hk => PRel_c (gK k hk) (fun j j1 j2 => h1 j _ (by omega) (by omega)) (fun j hj => eo _ (by omega) (by omega))) (fun k _ => ⟨h2 k, rfl⟩) (fun k _ _ => h1 12 k (by omega) (by omega)) (fun k _ => h1 13 k (by omega) (by omega)) (fun i i1 i2 => eo i (by omega) (by omega))
  rw [eo _ (by omega) (by omega), eo _ (by omega) (by omega), eo _ (by omega) (by omega), h1 15 p (by omega) (by omega), h1 16 p (by omega) (by omega), h1 17 p (by omega) (by omega)]
  exact gP p hp
def S16 (t v o k : Nat) : Bool := (o == t && (k == 16 || k == 18)) || (o == v && k == 2)
theorem S16_Ld {t v o k : Nat} (h : S16 t v o k = true) : SLd t v o k = true := by
  simp only [S16, Bool.or_eq_true, Bool.and_eq_true, beq_iff_eq] at h
  rcases h with ⟨rfl, -⟩ | ⟨rfl, rfl⟩
  · exact STn_Ld STn_in0
  · exact v_Ld (by omega)
theorem Li_wa_loop {E : mEn} {d : Nat} {Q : mPost} {t v np no nl nk n : Nat} {w : Nat → Int64} (ht : isT t) (hv : isV v) (hn : n ≤ 9) : ∀ (j i dy : Nat) (S : lvS) (τ : mSt) (u4 : Value), i + j = n → TRel τ t S.1 w np no nl nk dy → τ.1 v 2 = S.2 39 → (∀ υ, qt (S16 t v) τ υ → (∃ dy', TRel υ t (waF no j S).1 w np no nl nk dy') → υ.1 v 2 = (waF no j S).2 39 → Q (some (.int 1)) υ) → WP E (d + 1) mLi_hasWaited 13 [.ref v, .ref t, .int (nI n), .int (nI i), u4] [] τ Q
  | 0, i, dy, S, τ, u4, e, hT, h2, hQ => by
    have e' : i = n := by omega
    subst e'
    rw [bLi_hasWaited_13 ht hv, if_pos (Int32.le_refl _), bLi_hasWaited_93 ht hv]
    exact hQ τ qt_rf ⟨dy, hT⟩ h2
  | j + 1, i, dy, S, τ, u4, e, hT, h2, hQ => by
    have tb := isT_lt ht
    have vb := isV_bd hv
    obtain ⟨⟨b1, b2, b3, b4, b5⟩, ⟨t1, c1⟩, ⟨t2, c2⟩, ⟨t3, c3⟩, ⟨t4, c4⟩, ⟨t5, c5⟩, c6, gP, gO, gL, gB, gK, -⟩ := id hT
    rw [waF, c5] at hQ
    rw [bLi_hasWaited_13 ht hv, if_neg (nI_ge (by omega) (by omega)), bLi_hasWaited_18 ht hv, t5]
    by_cases z : dy < 99
    rotate_left
    · rw [if_neg (nI_nlt (by omega) (by omega))] at hQ
      rw [if_pos (nI_le (by omega) (by omega)), bLi_hasWaited_93 ht hv]
      exact hQ τ qt_rf ⟨dy, hT⟩ h2
    rw [if_pos (nI_lt z (by omega))] at hQ
    rw [if_neg (nI_ge z (by omega)), bLi_hasWaited_27 ht hv, t5, nI_1]
    refine Li_wo_loop (c := S.1) ht hv b2 no 0 (0, S.2 39) _ (by omega) ?_ (fun x hx => ?_) sI_e ?_ (fun υ a4 q g1 g2 => ?_)
    · simp (disch := omega) only [sI_n]; exact t2
    · simp (disch := omega) only [sI_n]; exact (gO x hx).1
    · simp (disch := omega) only [sI_n]; exact h2
    have q' : qt (S16 t v) τ υ := qt_tr (qt_sI (qt_sI qt_rf (by simp [S16])) (by simp [S16])) (qt_mono q (fun o k h => by
      simp only [S18, S16, Bool.or_eq_true, Bool.and_eq_true, beq_iff_eq] at h ⊢
      rcases h with h | h
      · exact Or.inl ⟨h.1, Or.inr h.2⟩
      · exact Or.inr h))
    rw [bLi_hasWaited_87 ht hv, nI_1]
    obtain ⟨x, hx, ex⟩ := woF_b (c := S.1) no 0 (0, S.2 39) (by omega) ⟨0, by decide, rfl⟩
    have x16 : x < 16 := by
      have : 2 ^ (0 + no) ≤ 2 ^ 4 := Nat.pow_le_pow_right (by omega) (by omega)
      omega
    refine Li_wa_loop ht hv hn j (i + 1) (dy + 1) (waD no S) υ _ (by omega) ?_ ?_ (fun φ q2 g3 g4 => hQ φ (qt_tr q' q2) g3 g4)
    · refine TRel_day hT (by omega) ⟨x, x16, ex⟩ (fun k k1 k2 => ?_) (fun j k j1 j2 => ?_) (fun k => ?_) ?_ g1
      · exact (q' t k (by simp only [S16, Bool.or_eq_false_iff, Bool.and_eq_false_iff, beq_eq_false_iff_ne]; omega)).1
      · exact (q' _ k (by simp only [S16, Bool.or_eq_false_iff, Bool.and_eq_false_iff, beq_eq_false_iff_ne]; omega)).1
      · exact (q' _ k (by simp only [S16, Bool.or_eq_false_iff, Bool.and_eq_false_iff, beq_eq_false_iff_ne]; omega)).2
      · rw [(q t 16 (by simp only [S18, Bool.or_eq_false_iff, Bool.and_eq_false_iff, beq_eq_false_iff_ne]; omega)).1, sI_n (by omega), sI_e]
    · rw [g2, waD]
      dsimp only
      rw [upd_e]
def S45 (o k : Nat) : Bool := (o == 171 && (k == 4 || k == 5)) || (o == 166 && k == 39)
theorem Mo_wo_loop {E : mEn} {d : Nat} {Q : mPost} {no : Nat} {c : Nat → Int32} {a1 a2 : Int32} (hno : no ≤ 4) (c2 : c 1 = nI no) : ∀ (j o : Nat) (s : Int32 × Int32) (τ : mSt), o + j = no → τ.1 171 = upd (upd c 4 (c 4 + 1)) 5 s.1 → τ.1 166 39 = s.2 → (∀ υ a3, qt S45 τ υ → υ.1 171 = upd (upd c 4 (c 4 + 1)) 5 (woF c j o s).1 → υ.1 166 39 = (woF c j o s).2 → WP E (d + 1) mMo_waits 97 [.ref 166, .int a1, .int a2, .int a3] [] υ Q) → WP E (d + 1) mMo_waits 49 [.ref 166, .int a1, .int a2, .int (nI o)] [] τ Q
  | 0, o, s, τ, e, hc, h2, hQ => by
    have e' : o = no := by omega
    subst e'
    rw [bMo_waits_49, if_neg (by decide), hc, upd_n (by omega), upd_n (by omega), c2, if_pos (Int32.le_refl _)]
    exact hQ τ _ qt_rf hc h2
  | j + 1, o, s, τ, e, hc, h2, hQ => by
    have IH := Mo_wo_loop (E := E) (d := d) (Q := Q) (c := c) (a1 := a1) (a2 := a2) hno c2 j (o + 1)
    rw [woF] at hQ
    have hc' : (sI τ 166 39 (dwN s.2)).1 171 = upd (upd c 4 (c 4 + 1)) 5 s.1 := hc
    rw [bMo_waits_49, if_neg (by decide), hc, upd_n (by omega), upd_n (by omega), c2, if_neg (nI_ge (by omega) (by omega)), bMo_waits_59, if_neg (by decide), hc, upd_e, Mo_draw h2, tl_s, bMo_waits_70, nI_add, mOut_f (by omega) (by omega), nI_clamp (by omega), hc', upd_n (by omega), upd_n (by omega), if_neg (by decide)]
    have NX : ∀ x : Int32, (∀ υ a3, qt S45 τ υ → υ.1 171 = upd (upd c 4 (c 4 + 1)) 5 (woF c j (o + 1) (s.1 ||| x, dwN s.2)).1 → υ.1 166 39 = (woF c j (o + 1) (s.1 ||| x, dwN s.2)).2 → WP E (d + 1) mMo_waits 97 [.ref 166, .int a1, .int a2, .int a3] [] υ Q) → WP E (d + 1) mMo_waits 89 [.ref 166, .int a1, .int a2, .int (nI o)] [.int x, .int s.1, .int (nI 5), .ref 171] (sI τ 166 39 (dwN s.2)) Q := fun x hQ => by
      rw [bMo_waits_89, mOut_f (by omega) (by omega), nI_clamp (by omega), if_neg (by decide), nI_1]
      refine IH (s.1 ||| x, dwN s.2) _ (by omega) ?_ ?_ (fun υ a3 q => hQ υ a3 (qt_tr (qt_sI (qt_sI qt_rf rfl) rfl) q))
      · rw [sI_u, hc', upd_u]
      · rw [sI_n (by omega), sI_e]
    by_cases z : dwV s.2 < c (30 + o)
    · rw [if_pos z] at hQ
      rw [if_neg (Int32.not_le.mpr z), bMo_waits_82]
      exact NX _ hQ
    · rw [if_neg z] at hQ
      rw [if_pos (Int32.not_lt.mp z), bMo_waits_88]
      exact NX 0 (by rw [Int32.or_zero]; exact hQ)
theorem Mo_wa_loop {E : mEn} {d : Nat} {Q : mPost} {no n d0 : Nat} (hno : no ≤ 4) (hn : n ≤ 9) : ∀ (j dy : Nat) (S : lvS) (τ : mSt) (u3 : Value), dy + j = d0 + n → dy ≤ 99 → d0 ≤ 99 → S.1 1 = nI no → S.1 4 = nI dy → τ.1 171 = S.1 → τ.1 166 39 = S.2 39 → (∀ υ u3 dy', qt S45 τ υ → υ.1 171 = (waF no j S).1 → υ.1 166 39 = (waF no j S).2 39 → (waF no j S).1 4 = nI dy' → dy ≤ dy' → dy' ≤ 99 → (0 < j → dy < 99 → dy < dy') → WP E (d + 1) mMo_waits 100 [.ref 166, .int (nI n), .int (nI d0), u3] [] υ Q) → WP E (d + 1) mMo_waits 7 [.ref 166, .int (nI n), .int (nI d0), u3] [] τ Q
  | 0, dy, S, τ, u3, e, hy, h0, h1, h4, hc, h2, hQ => by
    have := hQ τ u3 dy qt_rf hc h2 h4 (Nat.le_refl _) hy (fun x => absurd x (by omega))
    rw [bMo_waits_7, if_neg (by decide), hc, h4]
    by_cases z : nI 99 ≤ nI dy
    · rw [if_pos z]; exact this
    · rw [if_neg z, bMo_waits_18, if_neg (by decide), hc, h4, nI_add, if_pos (nI_le (by omega) (by omega))]; exact this
  | j + 1, dy, S, τ, u3, e, hy, h0, h1, h4, hc, h2, hQ => by
    rw [waF, h4] at hQ
    rw [bMo_waits_7, if_neg (by decide), hc, h4]
    by_cases z : dy < 99
    rotate_left
    · rw [if_neg (nI_nlt (by omega) (by omega))] at hQ
      rw [if_pos (nI_le (by omega) (by omega))]
      exact hQ τ u3 dy qt_rf hc h2 h4 (Nat.le_refl _) hy (fun _ x => absurd x z)
    rw [if_pos (nI_lt z (by omega))] at hQ
    rw [if_neg (nI_ge z (by omega)), bMo_waits_18, if_neg (by decide), hc, h4, nI_add, if_neg (nI_ge (by omega) (by omega)), bMo_waits_30, if_neg (by decide), if_neg (by decide), if_neg (by decide), hc]
    have hc1 : (sI (sI τ 171 4 (S.1 4 + 1)) 171 5 0).1 171 = upd (upd S.1 4 (S.1 4 + 1)) 5 0 := by rw [sI_u, sI_u, hc]
    refine Mo_wo_loop (c := S.1) hno h1 no 0 (0, S.2 39) _ (by omega) hc1 h2 (fun υ a3 q g1 g2 => ?_)
    rw [bMo_waits_97]
    have q' : qt S45 τ υ := qt_tr (qt_sI (qt_sI qt_rf rfl) rfl) q
    refine Mo_wa_loop hno hn j (dy + 1) (waD no S) υ _ (by omega) (by omega) h0 ?_ ?_ g1 ?_ (fun φ u3 dy' q2 g3 g4 g5 g6 g7 g8 => hQ φ u3 dy' (qt_tr q' q2) g3 g4 g5 (by omega) g7 (fun _ _ => by omega))
    · rw [waD]
      dsimp only
      rw [upd_n (by omega), upd_n (by omega), h1]
    · rw [waD]
      dsimp only
      rw [upd_n (by omega), upd_e, h4, nI_1]
    · rw [g2, waD]
      dsimp only
      rw [upd_e]
