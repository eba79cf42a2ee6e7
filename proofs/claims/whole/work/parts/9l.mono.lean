theorem whf_s {x : Int64} : ∀ f i, whf x f i = -1 ∨ ∃ k, i ≤ k ∧ k < i + f ∧ whf x f i = nI k ∧ kwV.getD k 0 = x
  | 0, i => Or.inl rfl
  | f + 1, i => by
    rw [whf]
    by_cases z : kwV.getD i 0 = x
    · rw [if_pos z]; exact Or.inr ⟨i, by omega, by omega, rfl, z⟩
    · rw [if_neg z]
      rcases whf_s (x := x) f (i + 1) with g | ⟨k, h1, h2, h3, h4⟩
      · exact Or.inl g
      · exact Or.inr ⟨k, by omega, by omega, h3, h4⟩
theorem kw_inj : ∀ i : Fin 28, ∀ j : Fin 28, kwV.getD i.val 0 = kwV.getD j.val 0 → i.val = j.val := by decide +kernel
theorem wH_k {T : Nat → Int32} {n q k : Nat} (hk : k < 28) (h : isW T n q k = true) : wH T n q = nI k := by
  simp only [isW, Bool.and_eq_true, decide_eq_true_eq] at h
  unfold wH
  rw [if_pos h.1]
  rcases whf_s (x := nmL T n q) 28 0 with g | ⟨j, -, h2, h3, h4⟩
  · exact absurd h.2 ((whf_m 28 0 (by omega)).mp g k (by omega) (by omega))
  · have := kw_inj ⟨k, hk⟩ ⟨j, by omega⟩ (h.2.trans h4.symm)
    rw [h3]; exact congrArg nI this.symm
theorem wH_i {T : Nat → Int32} {n q k : Nat} (hk : k < 28) (h : wH T n q = nI k) : isW T n q k = true := by
  unfold wH at h
  by_cases z : kd T n q = 1
  · rw [if_pos z] at h
    rcases whf_s (x := nmL T n q) 28 0 with g | ⟨j, -, h2, h3, h4⟩
    · rw [g] at h; exact absurd h.symm (nI_m1 (by omega))
    · rw [h3] at h
      have := (nI_eq (by omega) (by omega)).mp h
      subst this
      simp only [isW, z, h4, decide_true, Bool.and_self]
  · rw [if_neg z] at h; exact absurd h.symm (nI_m1 (by omega))
theorem q_bh {T : Nat → Int32} {n q : Nat} : q ≤ bh T n q := Nat.le_trans pl_ge bh_ge
theorem pNum_mo {T : Nat → Int32} {n lo hi q v q' : Nat} (h : pNum T n lo hi q = .ok (v, q')) : q ≤ q' := by
  unfold pNum at h
  split at h
  · split at h
    · have e : bh T n q = q' := congrArg Prod.snd (Except.ok.inj h)
      rw [← e]; exact q_bh
    · exact absurd h (by simp)
  · exact absurd h (by simp)
theorem pOpt_mo {T : Nat → Int32} {n k hi q v q' : Nat} (h : pOpt T n k hi q = .ok (v, q')) : q ≤ q' := by
  unfold pOpt at h
  split at h
  · exact Nat.le_trans q_bh (pNum_mo h)
  · have e : q = q' := congrArg Prod.snd (Except.ok.inj h)
    omega
theorem pNew_mo {T : Nat → Int32} {n np no nl q q' : Nat} {w : Nat → Int64} {x : Int64} (h : pNew T n w np no nl q = .ok (x, q')) : q ≤ q' := by
  unfold pNew at h
  split at h
  · split at h
    · exact absurd h (by simp)
    · have e : bh T n q = q' := congrArg Prod.snd (Except.ok.inj h)
      rw [← e]; exact q_bh
  · exact absurd h (by simp)
theorem pName_mo {T : Nat → Int32} {n lo m q v q' : Nat} {w : Nat → Int64} {gv : Int32} (h : pName T n w lo m gv q = .ok (v, q')) : q ≤ q' := by
  unfold pName at h
  split at h
  · split at h
    · exact absurd h (by simp)
    · split at h
      · exact absurd h (by simp)
      · have e : bh T n q = q' := congrArg Prod.snd (Except.ok.inj h)
        rw [← e]; exact q_bh
  · exact absurd h (by simp)
theorem pWd_mo {T : Nat → Int32} {n k q q' : Nat} (h : pWd T n k q = .ok q') : q ≤ q' := by
  unfold pWd at h
  split at h
  · rw [← Except.ok.inj h]; exact q_bh
  · exact absurd h (by simp)
theorem pSg_lt {T : Nat → Int32} {n q q' : Nat} (h : pSg T n q = .ok q') : q < q' := by
  unfold pSg at h
  split at h
  · next z =>
    simp only [isS, Bool.and_eq_true, decide_eq_true_eq] at z
    rw [← Except.ok.inj h]
    exact Nat.lt_of_le_of_lt pl_ge (bh_gt (by omega))
  · exact absurd h (by simp)
