/-! names, by the reference -/
theorem wn_b {T : Nat → Int32} {p : Nat} : ∀ m, (∀ j, j < m → cL (T (p + j)) = true) → wn T p m < 32 ^ m ∧ (0 < m → 0 < wn T p m)
  | 0, _ => ⟨by rw [wn]; decide, fun h => absurd h (by omega)⟩
  | m + 1, h => by
    have IH := wn_b m (fun j hj => h j (by omega))
    obtain ⟨b, b1, b2, eb⟩ := cL_n (h m (by omega))
    rw [wn, eb, nI_clamp (by omega)]
    have : 32 ^ (m + 1) = 32 ^ m * 32 := Nat.pow_succ 32 m
    omega
theorem kd_1 {T : Nat → Int32} {n q : Nat} (h : kd T n q = 1) : bh T n q = wE T n q := by
  unfold kd at h
  unfold bh
  by_cases z : n ≤ pl T n q
  · rw [if_pos z] at h; omega
  rw [if_neg z] at h ⊢
  by_cases l : cL (T (pl T n q)) = true
  · rw [if_pos l]
  · rw [if_neg l] at h
    split at h
    · split at h <;> omega
    · split at h <;> omega
theorem nmL_nz {T : Nat → Int32} {n q : Nat} (h : kd T n q = 1) (h8 : ¬ 8 < bh T n q - pl T n q) : ¬ nmL T n q = 0 := by
  have gt := bh_gt (T := T) (n := n) (q := q) (by omega)
  have e := kd_1 h
  obtain ⟨w1, w2⟩ := wn_b (T := T) (p := pl T n q) (bh T n q - pl T n q) (fun j hj => rn_all _ _ _ (by omega) (show pl T n q + j < wE T n q by omega))
  have w3 : 32 ^ (bh T n q - pl T n q) ≤ 32 ^ 8 := Nat.pow_le_pow_right (by omega) (by omega)
  have w4 := w2 (by omega)
  unfold nmL
  rw [if_neg h8]
  intro g
  have := (pk_lEQ (a := wn T (pl T n q) (bh T n q - pl T n q)) (b := 0) (by omega) (by omega)).mp g
  omega
theorem whf_m {x : Int64} : ∀ f i, i + f < 2 ^ 31 → (whf x f i = -1 ↔ ∀ k, i ≤ k → k < i + f → ¬ kwV.getD k 0 = x)
  | 0, i, _ => ⟨fun _ k h1 h2 => absurd h1 (by omega), fun _ => rfl⟩
  | f + 1, i, h => by
    have IH := whf_m (x := x) f (i + 1) (by omega)
    rw [whf]
    by_cases z : kwV.getD i 0 = x
    · rw [if_pos z]
      exact ⟨fun g => absurd g (nI_m1 (by omega)), fun g => absurd z (g i (by omega) (by omega))⟩
    · rw [if_neg z, IH]
      refine ⟨fun g k h1 h2 => ?_, fun g k h1 h2 => g k (by omega) (by omega)⟩
      by_cases y : i = k
      · subst y; exact z
      · exact g k (by omega) (by omega)
theorem wH_m {T : Nat → Int32} {n q : Nat} (h : kd T n q = 1) : (∃ k, k < 28 ∧ isW T n q k = true) ↔ ¬ wH T n q = -1 := by
  unfold wH
  rw [if_pos h, whf_m _ _ (by omega)]
  constructor
  · intro ⟨k, hk, z⟩ g
    simp only [isW, Bool.and_eq_true, decide_eq_true_eq] at z
    exact g k (by omega) (by omega) z.2
  · intro g
    refine Classical.byContradiction (fun c => g (fun k _ hk z => c ⟨k, by omega, ?_⟩))
    simp only [isW, h, z, decide_true, Bool.and_self]
theorem Mo_isName {E : mEn} {d : Nat} {Q : mPost} {τ : mSt} {T : Nat → Int32} {n q : Nat} (h : MOk τ T n q) : WP E (d + 4) mMo_isName 0 [.ref 166] [] τ Q = Q (some (.int (b2i (isN T n q = true)))) τ := by
  have := kd_le (T := T) (n := n) (q := q)
  have p9 := bh_le (T := T) h.2.2.2.2.2.1
  have p8 := h.2.2.2.2.2.2
  rw [bMo_isName_0, h.2.1.1]
  by_cases y : kd T n q = 1
  · rw [ite_nn (by rw [y]; rfl), bMo_isName_8, (h.2.1.2.2.2.2.2 y).1]
    by_cases z : 8 < bh T n q - pl T n q
    · rw [if_pos (nI_lt z (by omega)), bMo_isName_28, bMo_isName_29 (Or.inl rfl), b2i_f]
      intro g
      have := (isN_1 g).2.1
      exact this (by unfold nmL; rw [if_pos z])
    · haveI : Decidable (∃ k, k < 28 ∧ isW T n q k = true) := decidable_of_iff _ (wH_m y).symm
      rw [if_neg (nI_nlt (by omega) (by omega)), bMo_isName_17, Mo_isKept h, tl_s, bMo_isName_21]
      by_cases w : wH T n q = -1
      · rw [b2i_f (fun g => (wH_m y).mp g w), ite_nn rfl, bMo_isName_24, bMo_isName_29 (Or.inr rfl), b2i_t (by simp only [isN, y, w, decide_eq_false (nmL_nz y z), decide_true, Bool.not_false, Bool.and_self])]
      · rw [b2i_t ((wH_m y).mpr w), if_pos i10, bMo_isName_28, bMo_isName_29 (Or.inl rfl), b2i_f (fun g => w (isN_1 g).2.2)]
  · rw [if_pos (show ¬ nI (kd T n q) = 1 from fun g => y ((nI_eq (b := 1) (by omega) (by omega)).mp g)), bMo_isName_28, bMo_isName_29 (Or.inl rfl), b2i_f (fun g => y (isN_1 g).1)]
theorem isN_w {τ : mSt} {T : Nat → Int32} {n q : Nat} (h : MOk τ T n q) (z : isN T n q = true) : τ.2 166 19 = nmL T n q := by
  obtain ⟨k1, k2, -⟩ := isN_1 z
  rw [(h.2.1.2.2.2.2.2 k1).2]
  unfold nmL at k2 ⊢
  by_cases y : 8 < bh T n q - pl T n q
  · rw [if_pos y] at k2; exact absurd rfl k2
  · rw [if_neg y, if_neg y]
theorem Mo_named_loop {E : mEn} {d : Nat} {Q : mPost} {τ : mSt} {b lo m : Nat} {w : Nat → Int64} (hb : b ≤ 4) (hm : lo + m ≤ 20) (hw : ∀ j, j < 20 → τ.2 173 (20 * b + j) = w j) : ∀ f i, i + f = m → WP E d mMo_named 3 [.ref 166, .int (nI b), .int (nI lo), .int (nI m), .int (nI i)] [] τ Q = Q (some (.int (fnd w lo (τ.2 166 19) f i))) τ
  | 0, i, e => by
    have e' : i = m := by omega
    subst e'
    rw [bMo_named_3, if_pos (Int32.le_refl _), bMo_named_40]; rfl
  | f + 1, i, e => by
    rw [bMo_named_3, if_neg (nI_ge (by omega) (by omega)), bMo_named_9, pk_mul, nI_add, nI_add, mOut_f (by omega) (by omega), nI_clamp (by omega), show 20 * b + lo + i = 20 * b + (lo + i) by omega, hw _ (by omega), if_neg (by decide), fnd]
    by_cases z : w (lo + i) = τ.2 166 19
    · rw [ite_nn (by rw [lg_eq0]; exact z), bMo_named_31, if_pos z]
    · rw [if_pos (by rw [lg_eq0]; exact z), bMo_named_34, nI_1, if_neg z]
      exact Mo_named_loop hb hm hw f (i + 1) (by omega)
/-- names and numbers of a block of the reference -/
def BOk (τ : mSt) (b : Nat) (w : Nat → Int64) (np no nl : Nat) : Prop := b ≤ 4 ∧ np ≤ 8 ∧ no ≤ 4 ∧ nl ≤ 8 ∧ τ.1 171 (600 * b) = nI np ∧ τ.1 171 (600 * b + 1) = nI no ∧ τ.1 171 (600 * b + 2) = nI nl ∧ ∀ j, j < 20 → τ.2 173 (20 * b + j) = w j
theorem Mo_personNamed {E : mEn} {d : Nat} {Q : mPost} {τ : mSt} {b np no nl : Nat} {w : Nat → Int64} (h : BOk τ b w np no nl) : WP E (d + 1) mMo_personNamed 0 [.ref 166, .int (nI b)] [] τ Q = Q (some (.int (fnd w 0 (τ.2 166 19) np 0))) τ := by
  obtain ⟨h0, h1, h2, h3, h4, h5, h6, h7⟩ := h
  rw [bMo_personNamed_0, pk_mul, mOut_f (by omega) (by omega), nI_clamp (by omega), h4, if_neg (by decide), bMo_named_0]
  have L := Mo_named_loop (E := E) (d := d) (Q := fun r σ' => WP E (d + 1) mMo_personNamed 16 [.ref 166, .int (nI b)] (r.toList ++ []) σ' Q) (lo := 0) (m := np) h0 (by omega) h7 np 0 (by omega)
  rw [show nI 0 = 0 from rfl] at L
  rw [L, tl_s, bMo_personNamed_16]
theorem Mo_ovenNamed {E : mEn} {d : Nat} {Q : mPost} {τ : mSt} {b np no nl : Nat} {w : Nat → Int64} (h : BOk τ b w np no nl) : WP E (d + 1) mMo_ovenNamed 0 [.ref 166, .int (nI b)] [] τ Q = Q (some (.int (fnd w 8 (τ.2 166 19) no 0))) τ := by
  obtain ⟨h0, h1, h2, h3, h4, h5, h6, h7⟩ := h
  rw [bMo_ovenNamed_0, pk_mul, nI_1, mOut_f (by omega) (by omega), nI_clamp (by omega), h5, if_neg (by decide), bMo_named_0]
  have L := Mo_named_loop (E := E) (d := d) (Q := fun r σ' => WP E (d + 1) mMo_ovenNamed 19 [.ref 166, .int (nI b)] (r.toList ++ []) σ' Q) (lo := 8) (m := no) h0 (by omega) h7 no 0 (by omega)
  rw [show nI 0 = 0 from rfl] at L
  rw [L, tl_s, bMo_ovenNamed_19]
theorem Mo_loafNamed {E : mEn} {d : Nat} {Q : mPost} {τ : mSt} {b np no nl : Nat} {w : Nat → Int64} (h : BOk τ b w np no nl) : WP E (d + 1) mMo_loafNamed 0 [.ref 166, .int (nI b)] [] τ Q = Q (some (.int (fnd w 12 (τ.2 166 19) nl 0))) τ := by
  obtain ⟨h0, h1, h2, h3, h4, h5, h6, h7⟩ := h
  rw [bMo_loafNamed_0, pk_mul, nI_add, mOut_f (by omega) (by omega), nI_clamp (by omega), h6, if_neg (by decide), bMo_named_0]
  have L := Mo_named_loop (E := E) (d := d) (Q := fun r σ' => WP E (d + 1) mMo_loafNamed 19 [.ref 166, .int (nI b)] (r.toList ++ []) σ' Q) (lo := 12) (m := nl) h0 (by omega) h7 nl 0 (by omega)
  rw [show nI 0 = 0 from rfl] at L
  rw [L, tl_s, bMo_loafNamed_19]
