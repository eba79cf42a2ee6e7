/-- what a call that only tells may change: status, scratch -/
def SQ (o k : Nat) : Bool := (o == 0 && k == 10) || (decide (61 ≤ o) && decide (o ≤ 67)) || (decide (69 ≤ o) && decide (o ≤ 71)) || o == 20 || o == 21 || (o == 166 && (k == 0 || k == 1 || k == 28)) || (decide (174 ≤ o) && decide (o ≤ 176)) || ((o == 177 || o == 178) && k != 0) || o == 179 || o == 181 || o == 182
theorem SQ_T {t j k : Nat} (ht : t = 10 ∨ (91 ≤ t ∧ t ≤ 141)) (hj : j < 25) (h1 : j ≠ 10) (h2 : j ≠ 11) : SQ (t + j) k = false := by
  simp only [SQ, Bool.or_eq_false_iff, Bool.and_eq_false_iff, beq_eq_false_iff_ne, decide_eq_false_iff_not, ne_eq]
  omega
theorem Inv_q {σ τ : mSt} (h : Inv σ) (q : qt SQ σ τ) (hs : τ.1 0 10 = τ.1 166 0) : Inv τ := by
  have e1 : ∀ o k, SQ o k = false → τ.1 o k = σ.1 o k := fun o k g => (q o k g).1
  have e2 : ∀ o k, SQ o k = false → τ.2 o k = σ.2 o k := fun o k g => (q o k g).2
  have f1 : ∀ o, (∀ k, SQ o k = false) → τ.1 o = σ.1 o := fun o g => funext fun k => e1 o k (g k)
  have f2 : ∀ o, (∀ k, SQ o k = false) → τ.2 o = σ.2 o := fun o g => funext fun k => e2 o k (g k)
  obtain ⟨h1, h2, h3, h4, h5, ⟨a1, a2, a3, a4⟩, ⟨k, b1, b2, b3, b4⟩, ⟨c1, c2⟩, ⟨k2, r1, r2, r3, r4⟩, h10, ⟨np, no, nl, nk, dy, h11⟩⟩ := h
  refine ⟨hs, ?_, ?_, ?_, ?_, ⟨?_, ?_, ?_, ?_⟩, ⟨k, b1, ?_, ?_, ?_⟩, ⟨?_, ?_⟩, ⟨k2, r1, ?_, ?_, ?_⟩, ?_, ⟨np, no, nl, nk, dy, ?_⟩⟩
  · rw [e2 0 11 rfl, e2 0 12 rfl, e2 166 2 rfl, e2 166 3 rfl]; exact h2
  · rw [e1 0 13 rfl, e1 0 14 rfl, e1 166 10 rfl, e1 166 11 rfl]; exact h3
  · rw [f1 7 (fun _ => rfl), f1 170 (fun _ => rfl), e1 6 2 rfl, e1 166 8 rfl]; exact h4
  · exact ⟨by rw [e1 177 0 rfl]; exact h5.1, by rw [e1 178 0 rfl]; exact h5.2.1, fun t ht k => by rw [e1 (t + 9) k (by rcases ht with rfl | rfl | rfl | rfl | rfl <;> rfl)]; exact h5.2.2 t ht k⟩
  · rw [f2 2 (fun _ => rfl), f2 169 (fun _ => rfl)]; exact a1
  · rw [f1 3 (fun _ => rfl), f1 167 (fun _ => rfl)]; exact a2
  · rw [f1 4 (fun _ => rfl), f1 168 (fun _ => rfl)]; exact a3
  · rw [f1 168 (fun _ => rfl)]; exact a4
  · rw [e1 0 9 rfl]; exact b2
  · rw [e1 166 23 rfl]; exact b3
  · intro i hi
    rw [f1 171 (fun _ => rfl), f2 173 (fun _ => rfl)]
    obtain ⟨np, no, nl, nk, dy, g⟩ := b4 i hi
    exact ⟨np, no, nl, nk, dy, TRel_q q (fun j k' hj x1 x2 => SQ_T (Or.inr (by omega)) hj x1 x2) g⟩
  · rw [e1 0 15 rfl, e1 166 37 rfl]; exact c1
  · rw [e1 166 37 rfl, e1 73 4 rfl, e1 73 5 rfl, e1 73 6 rfl, e1 73 7 rfl, e1 73 8 rfl, f1 183 (fun _ => rfl)]; exact c2
  · rw [e1 68 4 rfl]; exact r2
  · rw [e1 166 33 rfl]; exact r3
  · intro i hi
    rw [f1 72 (fun _ => rfl), f1 180 (fun _ => rfl)]; exact r4 i hi
  · intro k hk
    rw [f2 8 (fun _ => rfl)]; exact h10 k hk
  · rw [f1 171 (fun _ => rfl), f2 173 (fun _ => rfl)]
    exact TRel_q q (fun j k' hj x1 x2 => SQ_T (Or.inl rfl) hj x1 x2) h11
def pairI (E : mEn) (d : Nat) (X Y : mM) (ax ay : List Value) (σ : mSt) : Prop := WP E d X 0 ax [] σ (fun r σ1 => ∃ v, r = some (.int v) ∧ WP E d Y 0 ay [] σ1 (fun r' σ2 => r' = some (.int v) ∧ Inv σ2))
def pairL (E : mEn) (d : Nat) (X Y : mM) (ax ay : List Value) (σ : mSt) : Prop := WP E d X 0 ax [] σ (fun r σ1 => ∃ v, r = some (.long v) ∧ WP E d Y 0 ay [] σ1 (fun r' σ2 => r' = some (.long v) ∧ Inv σ2))
/-- the class tells v with status c, the reference then the same -/
theorem pairI_q {E : mEn} {d : Nat} {X Y : mM} {ax ay : List Value} {σ : mSt} (hI : Inv σ) (v s : Int32)
    (hx : ∀ Q : mPost, (∀ τ, qt SQ σ τ → τ.1 0 10 = s → Q (some (.int v)) τ) → WP E d X 0 ax [] σ Q)
    (hy : ∀ τ, qt SQ σ τ → ∀ Q : mPost, (∀ υ, qt SQ τ υ → υ.1 166 0 = s → υ.1 0 10 = τ.1 0 10 → Q (some (.int v)) υ) → WP E d Y 0 ay [] τ Q) : pairI E d X Y ax ay σ := by
  refine hx _ (fun τ q1 q2 => ⟨v, rfl, hy τ q1 _ (fun υ p1 p2 p3 => ⟨rfl, Inv_q hI (qt_tr q1 p1) (by rw [p3, q2, p2])⟩)⟩)
