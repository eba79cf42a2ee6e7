/-! small rows for the walks -/
def b2i (c : Prop) [Decidable c] : Int32 := if c then 1 else 0
theorem b2i_or {c : Prop} [Decidable c] : b2i c = 0 ∨ b2i c = 1 := by unfold b2i; split <;> simp
theorem b2i_0 {c : Prop} [Decidable c] : (b2i c = 0) = ¬ c := by unfold b2i; split <;> simp_all
theorem b2i_t {c : Prop} [Decidable c] (h : c) : b2i c = 1 := if_pos h
theorem b2i_f {c : Prop} [Decidable c] (h : ¬ c) : b2i c = 0 := if_neg h
theorem b2i_congr {c e : Prop} [Decidable c] [Decidable e] (h : c ↔ e) : b2i c = b2i e := by unfold b2i; simp [h]
theorem sI_rd {σ : mSt} {o k a b : Nat} {v : Int32} : (sI σ o k v).1 a b = if a = o ∧ b = k then v else σ.1 a b := rfl
theorem sI_r2 {σ : mSt} {o k : Nat} {v : Int32} : (sI σ o k v).2 = σ.2 := rfl
theorem sL_rd {σ : mSt} {o k a b : Nat} {v : Int64} : (sL σ o k v).2 a b = if a = o ∧ b = k then v else σ.2 a b := rfl
theorem sL_r1 {σ : mSt} {o k : Nat} {v : Int64} : (sL σ o k v).1 = σ.1 := rfl
theorem mOut_f {n N : Nat} (h : n < N) (hN : N ≤ 2 ^ 31) : mOut (nI n) N = false := by
  have h1 : n < 2 ^ 31 := by omega
  simp only [mOut, nI_clamp h1, Bool.or_eq_false_iff, decide_eq_false_iff_not]
  exact ⟨nI_pos h1, by omega⟩
theorem mOut_lt {x : Int32} {N : Nat} (h0 : 0 ≤ x) (h1 : x < nI N) (hN : N < 2 ^ 31) : mOut x N = false := by
  obtain ⟨j, hj, rfl⟩ := nI_of (x := x) (by rw [Int32.not_lt]; exact h0)
  exact mOut_f ((nI_ltI hj hN).mp h1) (by omega)
theorem tl_s {v : Value} {st : List Value} : (some v).toList ++ st = v :: st := rfl
theorem tl_n {st : List Value} : (none : Option Value).toList ++ st = st := rfl
