def SRo (o k : Nat) : Bool := SRd o k || S6o o k
theorem Te_readTown {E : mEn} {d : Nat} {Q : mPost} {σ : mSt} {n m : Nat} {w : Nat → Int64} {u3 : Value} (hm : σ.1 6 2 = nI m) (hm9 : m ≤ 900) (hn : n ≤ m) (hk : RKw σ)
    (h1 : ∀ c' w' υ, pTown (σ.1 7) n 900 (fun _ => 0) w 0 = .ok (c', w') → qt SRo σ υ → GB σ υ 35 → υ.1 6 2 = 0 → υ.1 6 9 = 0 → υ.1 6 10 = -1 → DR υ c' w' → Q (some (.int 1)) υ)
    (h2 : ∀ e υ, pTown (σ.1 7) n 900 (fun _ => 0) w 0 = .error e → qt SRo σ υ → GB σ υ 35 → υ.1 6 2 = 0 → CBad υ e → Q (some (.int 0)) υ) : WP E (d + 6) mTe_readTown 0 [.ref 5, .ref 35, .int (nI n), u3] [] σ Q := by
  rw [bTe_readTown_0 T35]
  refine Tw_clear (d := d + 3) (w := w) (fun φ q1 g1 g2 => ?_)
  have hk1 : RKw φ := fun k h => ((q1 8 k rfl).2).trans (hk k h)
  have e7 : φ.1 7 = σ.1 7 := funext fun k => (q1 7 k rfl).1
  rw [tl_n, bTe_readTown_4 T35]
  refine To_open (d := d + 3) ((q1 6 2 rfl).1.trans hm) hm9 hn hk1 (fun ψ q2 g3 g4 g5 => ?_)
  rw [e7] at g3
  rw [tl_n, bTe_readTown_12 T35, show (0 : Int32) = nI 0 from rfl]
  have q12 : qt SRo σ ψ := qt_tr (qt_mono q1 (fun o k h => by simp only [SRo, STc_R h, Bool.true_or])) (qt_mono q2 (fun o k h => by simp only [SRo, h, Bool.or_true]))
  have hD : DR ψ (fun _ => 0) w := DR_q g1 q2 (fun o k x1 x2 => by simp only [S6o, Bool.and_eq_false_iff, beq_eq_false_iff_ne, decide_eq_false_iff_not]; omega)
  have gb : GB σ ψ 35 := fun k => Or.inl (((q2 44 k rfl).1).trans (g2 k))
  refine Te_town_loop (σ := ψ) 900 0 0 _ w ψ (by omega) (by omega) g3 hD qt_rf (fun k => Or.inl rfl) (fun c' w' υ ep q3 f1 f2 f3 f4 => ?_) (fun e υ ep q3 f1 f2 => ?_)
  · exact h1 c' w' υ ep (qt_tr q12 (qt_mono q3 (fun o k h => by simp only [SRo, h, Bool.true_or]))) (GB_tn gb f1) ((q3 6 2 rfl).1.trans g4) f2 f3 f4
  · exact h2 e υ ep (qt_tr q12 (qt_mono q3 (fun o k h => by simp only [SRo, h, Bool.true_or]))) (GB_tn gb f1) ((q3 6 2 rfl).1.trans g4) f2
