def tkB (w : Nat → Int64) (np no nl : Nat) (x : Int64) : Bool := !(decide (fnd w 0 x np 0 = -1) && decide (fnd w 8 x no 0 = -1) && decide (fnd w 12 x nl 0 = -1))
theorem tkB_e {w : Nat → Int64} {np no nl : Nat} {x : Int64} : tkn w np no nl x ↔ tkB w np no nl x = true := by
  unfold tkn tkB
  simp only [Bool.not_eq_true', Bool.and_eq_false_iff, decide_eq_false_iff_not, or_assoc]
def pNew (T : Nat → Int32) (n : Nat) (w : Nat → Int64) (np no nl q : Nat) : Except (Nat × Nat) (Int64 × Nat) := if isN T n q then (if tkB w np no nl (nmL T n q) then .error (3, pl T n q) else .ok (nmL T n q, bh T n q)) else .error (er T n q)
def NOk (τ : mSt) (t : Nat) (w : Nat → Int64) (np no nl : Nat) : Prop := np ≤ 8 ∧ no ≤ 4 ∧ nl ≤ 8 ∧ NRel τ t w 0 np 8 ∧ NRel τ t w 8 no 4 ∧ NRel τ t w 12 nl 8
theorem isN_1 {T : Nat → Int32} {n q : Nat} (h : isN T n q = true) : kd T n q = 1 ∧ ¬ nmL T n q = 0 ∧ wH T n q = -1 := by
  simp only [isN, Bool.and_eq_true, decide_eq_true_eq, Bool.not_eq_true', decide_eq_false_iff_not] at h
  exact ⟨h.1.1, h.1.2, h.2⟩
theorem To_takeNewName {E : mEn} {d : Nat} {Q : mPost} {τ : mSt} {T : Nat → Int32} {n q t np no nl : Nat} {w : Nat → Int64} {u2 u3 : Value} (ht : isT t) (h : COk τ T n q) (hN : NOk τ t w np no nl) (h1 : ∀ v q', pNew T n w np no nl q = .ok (v, q') → ∀ υ, qt S6b τ υ → COk υ T n q' → Q (some (.long v)) υ) (h2 : ∀ e, pNew T n w np no nl q = .error e → ∀ υ, qt S6b τ υ → CBad υ e → Q (some (.long 0)) υ) : WP E (d + 3) mTo_takeNewName 0 [.ref 6, .ref (t + 1), u2, u3] [] τ Q := by
  rw [bTo_takeNewName_0 ht]
  unfold pNew at h1 h2
  refine To_seesName h (fun z => ?_) (fun z υ q1 g => ?_)
  · obtain ⟨k1, k2, k3⟩ := isN_1 z
    have e8 : τ.2 6 8 = nmL T n q := h.2.1.2.2.2.2.2 k1
    obtain ⟨b1, b2, b3, n1, n2, n3⟩ := hN
    haveI : Decidable (tkn w np no nl (nmL T n q)) := decidable_of_iff _ tkB_e.symm
    rw [if_pos z] at h1 h2
    rw [tl_s, bTo_takeNewName_4 ht, if_pos i10, bTo_takeNewName_9 ht, e8, Na_isTaken ht k2 b1 b2 b3 n1 n2 n3, tl_s, bTo_takeNewName_17 ht]
    by_cases y : tkB w np no nl (nmL T n q) = true
    · rw [if_pos y] at h2
      rw [b2i_t (tkB_e.mpr y), if_neg i10, bTo_takeNewName_20 ht]
      refine To_blame h (by omega) (by omega) (fun υ q1 g => ?_)
      rw [tl_n, bTo_takeNewName_25 ht]
      exact h2 _ rfl υ q1 g
    · rw [if_neg y] at h1
      rw [b2i_f (fun g => y (tkB_e.mp g)), if_pos rfl, bTo_takeNewName_27 ht, e8]
      refine To_adv h (fun υ q1 g => ?_)
      rw [tl_n, bTo_takeNewName_36 ht]
      exact h1 _ _ rfl υ q1 g
  · rw [if_neg z] at h2
    rw [tl_s, bTo_takeNewName_4 ht, ite_nn rfl, bTo_takeNewName_7 ht]
    exact h2 _ rfl υ q1 g
theorem To_takeNewName_b {E : mEn} {d : Nat} {Q : mPost} {τ : mSt} {t : Nat} {u2 u3 : Value} (ht : isT t) (h : ¬ τ.1 6 9 = 0) : WP E (d + 3) mTo_takeNewName 0 [.ref 6, .ref (t + 1), u2, u3] [] τ Q = Q (some (.long 0)) τ := by
  rw [bTo_takeNewName_0 ht, To_seesName_b h, tl_s, bTo_takeNewName_4 ht, ite_nn rfl, bTo_takeNewName_7 ht]
/-- the number of what is told ahead under the name, but for the giver gv -/
def pName (T : Nat → Int32) (n : Nat) (w : Nat → Int64) (lo m : Nat) (gv : Int32) (q : Nat) : Except (Nat × Nat) (Nat × Nat) := if isN T n q then (if fnd w lo (nmL T n q) m 0 = -1 then .error (3, pl T n q) else if fnd w lo (nmL T n q) m 0 = gv then .error (5, pl T n q) else .ok ((fnd w lo (nmL T n q) m 0).toNatClampNeg, bh T n q)) else .error (er T n q)
def nMy (np no nl : Nat) : Nat → Nat
  | 0 => np
  | 1 => no
  | _ => nl
theorem To_takeName {E : mEn} {d : Nat} {Q : mPost} {τ : mSt} {T : Nat → Int32} {n q t a np no nl : Nat} {w : Nat → Int64} {gv : Int32} {u : Value} (ht : isT t) (ha : a < 3) (h : COk τ T n q) (hN : NOk τ t w np no nl) (h1 : ∀ v q', pName T n w (nLo a) (nMy np no nl a) gv q = .ok (v, q') → v < nMy np no nl a → ∀ υ, qt S6b τ υ → COk υ T n q' → Q (some (.int (nI v))) υ) (h2 : ∀ e v, pName T n w (nLo a) (nMy np no nl a) gv q = .error e → ∀ υ, qt S6b τ υ → CBad υ e → Q (some (.int v)) υ) : WP E (d + 3) mTo_takeName 0 [.ref 6, .ref (t + 1), .int (nI a), .int gv, u] [] τ Q := by
  rw [bTo_takeName_0 ht]
  unfold pName at h1 h2
  refine To_seesName h (fun z => ?_) (fun z υ q1 g => ?_)
  · obtain ⟨k1, k2, k3⟩ := isN_1 z
    have e8 : τ.2 6 8 = nmL T n q := h.2.1.2.2.2.2.2 k1
    obtain ⟨b1, b2, b3, n1, n2, n3⟩ := hN
    have NR : NRel τ t w (nLo a) (nMy np no nl a) (nLo (a + 1) - nLo a) ∧ nMy np no nl a ≤ nLo (a + 1) - nLo a := by
      rcases (show a = 0 ∨ a = 1 ∨ a = 2 by omega) with rfl | rfl | rfl
      · exact ⟨n1, b1⟩
      · exact ⟨n2, b2⟩
      · exact ⟨n3, b3⟩
    have m8 : nMy np no nl a ≤ 8 := by
      rcases (show a = 0 ∨ a = 1 ∨ a = 2 by omega) with rfl | rfl | rfl
      · exact b1
      · exact Nat.le_trans b2 (by omega)
      · exact b3
    rw [if_pos z] at h1 h2
    rw [tl_s, bTo_takeName_4 ht, if_pos i10, bTo_takeName_9 ht, e8, Na_numberOf ht ha k2 NR.2 NR.1, tl_s, bTo_takeName_18 ht]
    have fs := fnd_s (w := w) (lo := nLo a) (x := nmL T n q) (nMy np no nl a) 0
    generalize fnd w (nLo a) (nmL T n q) (nMy np no nl a) 0 = F at *
    by_cases y : F = -1
    · rw [if_pos y] at h2
      rw [ite_nn y, bTo_takeName_26 ht]
      refine To_blame h (by omega) (by omega) (fun υ q1 g => ?_)
      rw [tl_n, bTo_takeName_31 ht, bTo_takeName_52 ht]
      exact h2 _ _ rfl υ q1 g
    · rw [if_neg y] at h1 h2
      rw [if_pos y, bTo_takeName_34 ht]
      obtain ⟨k, -, kn, ek, -⟩ := fs.resolve_left y
      by_cases x : F = gv
      · rw [if_pos x] at h2
        rw [ite_nn x, bTo_takeName_40 ht]
        refine To_blame h (by omega) (by omega) (fun υ q1 g => ?_)
        rw [tl_n, bTo_takeName_45 ht, bTo_takeName_52 ht]
        exact h2 _ _ rfl υ q1 g
      · rw [if_neg x] at h1
        rw [if_pos x, bTo_takeName_48 ht]
        refine To_adv h (fun υ q1 g => ?_)
        rw [tl_n, bTo_takeName_52 ht, ek]
        rw [ek, nI_clamp (by omega)] at h1
        exact h1 _ _ rfl (by omega) υ q1 g
  · rw [if_neg z] at h2
    rw [tl_s, bTo_takeName_4 ht, ite_nn rfl, bTo_takeName_7 ht]
    exact h2 _ _ rfl υ q1 g
theorem To_takeName_b {E : mEn} {d : Nat} {Q : mPost} {τ : mSt} {t : Nat} {a gv : Int32} {u : Value} (ht : isT t) (h : ¬ τ.1 6 9 = 0) : WP E (d + 3) mTo_takeName 0 [.ref 6, .ref (t + 1), .int a, .int gv, u] [] τ Q = Q (some (.int (-1))) τ := by
  rw [bTo_takeName_0 ht, To_seesName_b h, tl_s, bTo_takeName_4 ht, ite_nn rfl, bTo_takeName_7 ht]
