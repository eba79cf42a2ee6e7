/-! days, class: rows added, begun, closed -/
section DA
variable {E : mEn} {d : Nat} {Q : mPost} {τ : mSt} {t : Nat}
theorem Da_add_lp {a : Int32} {r i : Nat} {v : Int32} (ht : isT t) (hr : r < 60) (hi : i < 5) (hv : τ.1 9 i = v) : WP E d mDa_add 35 [.ref (t + 12), .int a, .ref 9, .int (nI (r * 7)), .int (nI i)] [] τ Q = WP E d mDa_add 35 [.ref (t + 12), .int a, .ref 9, .int (nI (r * 7)), .int (nI (i + 1))] [] (sI τ (t + 13) (r * 7 + 1 + i) v) Q := by
  rw [bDa_add_35 ht, if_neg (nI_ge hi (by omega)), bDa_add_41 ht, if_neg (nI_ge hi (by omega)), bDa_add_48 ht, mOut_f (n := i) (by omega) (by omega), if_neg (by decide), nI_1, nI_add, mOut_f (by omega) (by omega), if_neg (by decide), nI_1, nI_clamp (n := i) (by omega), nI_clamp (by omega), hv]
theorem Da_add {a : Int32} {r : Nat} {F g : Nat → Int32} {u3 u4 : Value} (ht : isT t) (h3 : τ.1 (t + 12) 3 = nI r) (hr : r < 60) (hF : τ.1 (t + 13) = F) (h9 : F9 τ g)
    (hQ : ∀ υ, qt (fun o _ => o == t + 12 || o == t + 13) τ υ → υ.1 (t + 13) = fRow F r a g → υ.1 (t + 12) 2 = τ.1 (t + 12) 2 → υ.1 (t + 12) 3 = nI (r + 1) → υ.1 (t + 12) 4 = (if a = nI 26 then τ.1 (t + 12) 4 else τ.1 (t + 12) 4 + 1) → Q none υ) : WP E d mDa_add 0 [.ref (t + 12), .int a, .ref 9, u3, u4] [] τ Q := by
  have tl := isT_lt ht
  have k9 : ∀ {φ : mSt} {k : Nat} {v : Int32} {i : Nat}, i < 5 → φ.1 9 i = g i → (sI φ (t + 13) k v).1 9 i = g i := fun hi e => (sI_n (Or.inl (by omega))).trans e
  rw [bDa_add_0 ht, h3, if_neg (nI_pos (by omega)), bDa_add_7 ht, h3, if_pos (nI_lt hr (by omega)), bDa_add_17 ht, h3, pk_mul, mOut_f (by omega) (by omega), if_neg (by decide), nI_clamp (by omega), show (0 : Int32) = nI 0 from rfl]
  rw [Da_add_lp ht hr (i := 0) (v := g 0) (by omega) (k9 (by omega) (h9 0 (by omega)))]
  rw [Da_add_lp ht hr (i := 1) (v := g 1) (by omega) (k9 (by omega) (k9 (by omega) (h9 1 (by omega))))]
  rw [Da_add_lp ht hr (i := 2) (v := g 2) (by omega) (k9 (by omega) (k9 (by omega) (k9 (by omega) (h9 2 (by omega)))))]
  rw [Da_add_lp ht hr (i := 3) (v := g 3) (by omega) (k9 (by omega) (k9 (by omega) (k9 (by omega) (k9 (by omega) (h9 3 (by omega))))))]
  rw [Da_add_lp ht hr (i := 4) (v := g 4) (by omega) (k9 (by omega) (k9 (by omega) (k9 (by omega) (k9 (by omega) (k9 (by omega) (h9 4 (by omega)))))))]
  have F1 : (sI (sI (sI (sI (sI (sI τ (t + 13) (r * 7) a) (t + 13) (r * 7 + 1 + 0) (g 0)) (t + 13) (r * 7 + 1 + 1) (g 1)) (t + 13) (r * 7 + 1 + 2) (g 2)) (t + 13) (r * 7 + 1 + 3) (g 3)) (t + 13) (r * 7 + 1 + 4) (g 4)).1 (t + 13) = upd (upd (upd (upd (upd (upd F (r * 7) a) (r * 7 + 1) (g 0)) (r * 7 + 2) (g 1)) (r * 7 + 3) (g 2)) (r * 7 + 4) (g 3)) (r * 7 + 5) (g 4) := by
    simp only [sI_u, hF]
  have q1 : qt (fun o _ => o == t + 12 || o == t + 13) τ (sI (sI (sI (sI (sI (sI τ (t + 13) (r * 7) a) (t + 13) (r * 7 + 1 + 0) (g 0)) (t + 13) (r * 7 + 1 + 1) (g 1)) (t + 13) (r * 7 + 1 + 2) (g 2)) (t + 13) (r * 7 + 1 + 3) (g 3)) (t + 13) (r * 7 + 1 + 4) (g 4)) := by
    repeat' (first | exact qt_rf | refine qt_sI ?_ (by simp))
  have E1 : ∀ k, (sI (sI (sI (sI (sI (sI τ (t + 13) (r * 7) a) (t + 13) (r * 7 + 1 + 0) (g 0)) (t + 13) (r * 7 + 1 + 1) (g 1)) (t + 13) (r * 7 + 1 + 2) (g 2)) (t + 13) (r * 7 + 1 + 3) (g 3)) (t + 13) (r * 7 + 1 + 4) (g 4)).1 (t + 12) k = τ.1 (t + 12) k := fun k => by
    simp (disch := omega) only [sI_n]
  generalize sI (sI (sI (sI (sI (sI τ (t + 13) (r * 7) a) (t + 13) (r * 7 + 1 + 0) (g 0)) (t + 13) (r * 7 + 1 + 1) (g 1)) (t + 13) (r * 7 + 1 + 2) (g 2)) (t + 13) (r * 7 + 1 + 3) (g 3)) (t + 13) (r * 7 + 1 + 4) (g 4) = φ at *
  rw [bDa_add_35 ht, if_pos (Int32.le_refl _), bDa_add_69 ht, nI_add, mOut_f (by omega) (by omega), if_neg (by decide), nI_clamp (by omega), sI_n (Or.inl (by omega)), E1, h3, nI_1]
  have q2 : qt (fun o _ => o == t + 12 || o == t + 13) τ (sI (sI φ (t + 13) (r * 7 + 6) (-1)) (t + 12) 3 (nI (r + 1))) := qt_sI (qt_sI q1 (by simp)) (by simp)
  have F2 : (sI (sI φ (t + 13) (r * 7 + 6) (-1)) (t + 12) 3 (nI (r + 1))).1 (t + 13) = fRow F r a g := by
    rw [sI_1 (by omega), sI_u, F1]; rfl
  have e2 : (sI (sI φ (t + 13) (r * 7 + 6) (-1)) (t + 12) 3 (nI (r + 1))).1 (t + 12) 2 = τ.1 (t + 12) 2 := by rw [sI_n (Or.inr (by omega)), sI_n (Or.inl (by omega)), E1]
  have e4 : (sI (sI φ (t + 13) (r * 7 + 6) (-1)) (t + 12) 3 (nI (r + 1))).1 (t + 12) 4 = τ.1 (t + 12) 4 := by rw [sI_n (Or.inr (by omega)), sI_n (Or.inl (by omega)), E1]
  have e3 : (sI (sI φ (t + 13) (r * 7 + 6) (-1)) (t + 12) 3 (nI (r + 1))).1 (t + 12) 3 = nI (r + 1) := sI_e
  generalize sI (sI φ (t + 13) (r * 7 + 6) (-1)) (t + 12) 3 (nI (r + 1)) = ψ at *
  by_cases z : a = nI 26
  · rw [if_pos z, bDa_add_105 ht]
    exact hQ ψ q2 F2 e2 e3 (by rw [if_pos z]; exact e4)
  · rw [if_neg z, bDa_add_95 ht, bDa_add_105 ht, e4]
    exact hQ _ (qt_sI q2 (by simp)) (by rw [sI_1 (by omega)]; exact F2) (by rw [sI_n (Or.inr (by omega))]; exact e2) (by rw [sI_n (Or.inr (by omega))]; exact e3) (by rw [if_neg z, sI_e])
theorem Da_begin {wi r : Nat} (ht : isT t) (h2 : τ.1 (t + 12) 2 = nI wi) (hw : wi < 3) (h3 : τ.1 (t + 12) 3 = nI (r + 1)) : WP E d mDa_begin 0 [.ref (t + 12)] [] τ Q = Q none (sI (sI τ (t + 14) wi (nI r)) (t + 12) 2 (nI (wi + 1))) := by
  rw [bDa_begin_0 ht, h2, if_neg (nI_pos (by omega)), bDa_begin_7 ht, h2, if_neg (nI_ge hw (by omega)), bDa_begin_15 ht, h2, h3, mOut_f (by omega) (by omega), if_neg (by decide), nI_clamp (by omega), nI_pred, sI_n (Or.inl (by omega)), h2, nI_1, bDa_begin_40 ht]
theorem Da_close {wi r r2 : Nat} {F : Nat → Int32} {u : Value} (ht : isT t) (h2 : τ.1 (t + 12) 2 = nI (wi + 1)) (hw : wi < 3) (h3 : τ.1 (t + 12) 3 = nI r2) (hr2 : r2 < 60) (h14 : τ.1 (t + 14) wi = nI r) (hr : r < r2) (hF : τ.1 (t + 13) = F) (h9 : F9 τ (fun _ => 0))
    (hQ : ∀ υ, qt (fun o _ => o == t + 12 || o == t + 13) τ υ → υ.1 (t + 13) = upd (upd (fRow F r2 (nI 26) (fun _ => 0)) (r2 * 7 + 6) (nI r)) (r * 7 + 6) (nI r2) → υ.1 (t + 12) 2 = nI wi → υ.1 (t + 12) 3 = nI (r2 + 1) → υ.1 (t + 12) 4 = τ.1 (t + 12) 4 → Q none υ) : WP E (d + 1) mDa_close 0 [.ref (t + 12), .ref 9, u] [] τ Q := by
  have tl := isT_lt ht
  rw [bDa_close_0 ht, h2, if_neg (show ¬ nI (wi + 1) < 1 from nI_nlt (b := 1) (by omega) (by omega)), bDa_close_8 ht, h2, if_neg (nI_nlt (by omega) (by omega)), bDa_close_16 ht, h3, if_pos (nI_lt hr2 (by omega)), bDa_close_26 ht, h2, nI_pred, sI_e, mOut_f (by omega) (by omega), if_neg (by decide), nI_clamp (by omega), sI_n (Or.inl (by omega)), h14, if_neg (nI_pos (by omega)), bDa_close_50 ht, sI_n (Or.inr (by omega)), h3, if_pos (nI_lt hr (by omega)), bDa_close_59 ht]
  refine Da_add (F := F) (g := fun _ => 0) ht ((sI_n (Or.inr (by omega))).trans h3) hr2 ((sI_1 (by omega)).trans hF) (fun i hi => (sI_n (Or.inl (by omega))).trans (h9 i hi)) (fun υ q1 a1 a2 a3 a4 => ?_)
  rw [if_pos rfl] at a4
  rw [tl_n, bDa_close_66 ht, a3, nI_pred, pk_mul, pk_mul, nI_add, nI_add, mOut_f (n := r2 * 7 + 6) (by omega) (by omega), mOut_f (n := r * 7 + 6) (by omega) (by omega), if_neg (by decide), if_neg (by decide), nI_clamp (n := r2 * 7 + 6) (by omega), nI_clamp (n := r * 7 + 6) (by omega), sI_n (Or.inl (by omega)), a3, nI_pred, bDa_close_102 ht]
  refine hQ _ (qt_sI (qt_sI (qt_tr (qt_sI qt_rf (by simp)) q1) (by simp)) (by simp)) (by rw [sI_u, sI_u, a1]) ?_ ?_ ?_
  · rw [sI_n (Or.inl (by omega)), sI_n (Or.inl (by omega)), a2, sI_e]
  · rw [sI_n (Or.inl (by omega)), sI_n (Or.inl (by omega)), a3]
  · rw [sI_n (Or.inl (by omega)), sI_n (Or.inl (by omega)), a4, sI_n (Or.inr (by omega))]
end DA
theorem Te_isStep_t {E : mEn} {d : Nat} {Q : mPost} {τ : mSt} {k : Nat} (hk : k ∈ stL) : WP E d mTe_isStep 0 [.int (nI k)] [] τ Q = Q (some (.int 1)) τ := by
  simp only [stL, List.mem_cons, List.not_mem_nil, or_false] at hk
  rcases hk with rfl | rfl | rfl | rfl | rfl | rfl | rfl | rfl | rfl
  · rw [bTe_isStep_0, if_pos rfl, bTe_isStep_30, bTe_isStep_35 (Or.inr rfl)]
  all_goals rw [bTe_isStep_0, if_neg (by decide), bTe_isStep_6]
  rotate_right
  · rw [if_pos rfl, bTe_isStep_30, bTe_isStep_35 (Or.inr rfl)]
  all_goals rw [if_neg (by decide), bTe_isStep_12]
  rotate_right
  · rw [if_pos rfl, bTe_isStep_30, bTe_isStep_35 (Or.inr rfl)]
  all_goals rw [if_neg (by decide), bTe_isStep_18, if_neg (by decide), bTe_isStep_24, if_neg (by decide), bTe_isStep_30, bTe_isStep_35 (Or.inr rfl)]
theorem nst_all : ∀ k : Fin 28, k.val ∉ stL → ¬ nI k.val = nI 10 ∧ ¬ nI k.val = nI 27 ∧ ¬ nI k.val = nI 25 ∧ (nI k.val < nI 15 ∨ nI 20 < nI k.val) := by decide
theorem wH_s {T : Nat → Int32} {n q : Nat} : wH T n q = -1 ∨ ∃ k, k < 28 ∧ isW T n q k = true ∧ wH T n q = nI k := by
  unfold wH
  by_cases z : kd T n q = 1
  · rw [if_pos z]
    rcases whf_s (x := nmL T n q) 28 0 with g | ⟨k, -, hk, e, e2⟩
    · exact Or.inl g
    · exact Or.inr ⟨k, by omega, by simp only [isW, z, e2, decide_true, Bool.and_self], e⟩
  · rw [if_neg z]; exact Or.inl rfl
theorem Te_isStep_f {E : mEn} {d : Nat} {Q : mPost} {τ : mSt} {T : Nat → Int32} {n q : Nat} (h : stK T n q = 0) : WP E d mTe_isStep 0 [.int (wH T n q)] [] τ Q = Q (some (.int 0)) τ := by
  have A : ¬ wH T n q = nI 10 ∧ ¬ wH T n q = nI 27 ∧ ¬ wH T n q = nI 25 ∧ (wH T n q < nI 15 ∨ nI 20 < wH T n q) := by
    rcases wH_s (T := T) (n := n) (q := q) with g | ⟨k, hk, hw, e⟩
    · rw [g]; decide
    · rw [e]
      exact nst_all ⟨k, hk⟩ (fun g => (stK_0 h).2 k g hw)
  obtain ⟨a1, a2, a3, a4⟩ := A
  rw [bTe_isStep_0, if_neg a1, bTe_isStep_6, if_neg a2, bTe_isStep_12, if_neg a3, bTe_isStep_18]
  by_cases z : wH T n q < nI 15
  · rw [if_pos z, bTe_isStep_34, bTe_isStep_35 (Or.inl rfl)]
  · rw [if_neg z, bTe_isStep_24, if_pos (a4.resolve_left z), bTe_isStep_34, bTe_isStep_35 (Or.inl rfl)]
theorem Te_begins {E : mEn} {d : Nat} {Q : mPost} {τ : mSt} {k : Nat} (hk : k < 28) : WP E d mTe_begins 0 [.int (nI k)] [] τ Q = Q (some (.int (b2i (isBl k = true)))) τ := by
  rw [bTe_begins_0]
  by_cases z : k = 20
  · subst z
    rw [if_pos rfl, bTe_begins_12, bTe_begins_17 (Or.inr rfl), b2i_t (show isBl 20 = true from rfl)]
  rw [if_neg (fun g => z ((nI_eq (by omega) (by omega)).mp g)), bTe_begins_6]
  by_cases y : k = 25
  · subst y
    rw [ite_nn rfl, bTe_begins_12, bTe_begins_17 (Or.inr rfl), b2i_t (show isBl 25 = true from rfl)]
  rw [if_pos (fun g => y ((nI_eq (by omega) (by omega)).mp g)), bTe_begins_16, bTe_begins_17 (Or.inl rfl), b2i_f (by simp [isBl, z, y])]
def SDt (t o k : Nat) : Bool := o == t + 12 || o == t + 13 || o == t + 14
theorem Te_addStep_f {E : mEn} {d : Nat} {Q : mPost} {τ : mSt} {t k r ns : Nat} {F g : Nat → Int32} (ht : isT t) (hk : k < 28) (k26 : k ≠ 26) (hb : ¬ isBl k = true) (h3 : τ.1 (t + 12) 3 = nI r) (h4 : τ.1 (t + 12) 4 = nI ns) (hr : r < 60) (hF : τ.1 (t + 13) = F) (h9 : F9 τ g)
    (hQ : ∀ υ, qt (SDt t) τ υ → υ.1 (t + 13) = fRow F r (nI k) g → υ.1 (t + 12) 2 = τ.1 (t + 12) 2 → υ.1 (t + 12) 3 = nI (r + 1) → υ.1 (t + 12) 4 = nI (ns + 1) → (∀ j, υ.1 (t + 14) j = τ.1 (t + 14) j) → Q none υ) : WP E (d + 1) mTe_addStep 0 [.ref 5, .int (nI k), .ref (t + 12)] [] τ Q := by
  have n26 : ¬ nI k = nI 26 := fun g => k26 ((nI_eq (by omega) (by omega)).mp g)
  rw [bTe_addStep_0 ht]
  refine Da_add ht h3 hr hF h9 (fun υ q1 a1 a2 a3 a4 => ?_)
  rw [if_neg n26, h4, nI_1] at a4
  rw [tl_n, bTe_addStep_9 ht, Te_begins hk, tl_s, bTe_addStep_13 ht, b2i_f hb, if_pos rfl, bTe_addStep_20 ht]
  refine hQ υ (qt_mono q1 (fun o k h => by simp only [SDt, Bool.or_eq_true] at h ⊢; exact Or.inl h)) a1 a2 a3 a4 (fun j => (q1 (t + 14) j ?_).1)
  simp
theorem Te_addStep_t {E : mEn} {d : Nat} {Q : mPost} {τ : mSt} {t k r ns wi : Nat} {F g : Nat → Int32} (ht : isT t) (hk : k < 28) (k26 : k ≠ 26) (hb : isBl k = true) (h2 : τ.1 (t + 12) 2 = nI wi) (hw : wi < 3) (h3 : τ.1 (t + 12) 3 = nI r) (h4 : τ.1 (t + 12) 4 = nI ns) (hr : r < 60) (hF : τ.1 (t + 13) = F) (h9 : F9 τ g)
    (hQ : ∀ υ, qt (SDt t) τ υ → υ.1 (t + 13) = fRow F r (nI k) g → υ.1 (t + 12) 2 = nI (wi + 1) → υ.1 (t + 12) 3 = nI (r + 1) → υ.1 (t + 12) 4 = nI (ns + 1) → υ.1 (t + 14) wi = nI r → (∀ j, j ≠ wi → υ.1 (t + 14) j = τ.1 (t + 14) j) → Q none υ) : WP E (d + 1) mTe_addStep 0 [.ref 5, .int (nI k), .ref (t + 12)] [] τ Q := by
  have tl := isT_lt ht
  have n26 : ¬ nI k = nI 26 := fun g => k26 ((nI_eq (by omega) (by omega)).mp g)
  rw [bTe_addStep_0 ht]
  refine Da_add ht h3 hr hF h9 (fun υ q1 a1 a2 a3 a4 => ?_)
  rw [if_neg n26, h4, nI_1] at a4
  rw [tl_n, bTe_addStep_9 ht, Te_begins hk, tl_s, bTe_addStep_13 ht, b2i_t hb, if_neg i10, bTe_addStep_16 ht, Da_begin ht (a2.trans h2) hw a3, tl_n, bTe_addStep_20 ht]
  refine hQ _ (qt_sI (qt_sI (qt_mono q1 (fun o k h => by simp only [SDt, Bool.or_eq_true] at h ⊢; exact Or.inl h)) (by simp [SDt])) (by simp [SDt])) ?_ sI_e ?_ ?_ ?_ (fun j hj => ?_)
  · rw [sI_1 (by omega), sI_1 (by omega)]; exact a1
  · rw [sI_n (Or.inr (by omega)), sI_n (Or.inl (by omega))]; exact a3
  · rw [sI_n (Or.inr (by omega)), sI_n (Or.inl (by omega))]; exact a4
  · rw [sI_n (Or.inl (by omega)), sI_e]
  · rw [sI_n (Or.inl (by omega)), sI_n (Or.inr hj)]
    exact (q1 (t + 14) j (by simp)).1
