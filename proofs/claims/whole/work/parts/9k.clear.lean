theorem Ar_fl {E : mEn} {d : Nat} {Q : mPost} : ∀ (j k : Nat) (σ : mSt), k + j = 20 → WP E d mAr_filll 6 [.ref 37, .long 0, uu, .int (nI k), .int (nI 20)] [] σ Q = Q none (fillL σ 37 k j 0)
  | 0, k, σ, e => by
    rw [bAr_filll_6 (n0 := 20) rfl (by omega), if_pos (nI_le (by omega) (by omega)), bAr_filll_22 (n0 := 20) rfl (by omega), fillL_0]
  | j + 1, k, σ, e => by
    rw [bAr_filll_6 (n0 := 20) rfl (by omega), if_neg (nI_ge (by omega) (by omega)), bAr_filll_12 (n0 := 20) rfl (by omega), mOut_f (by omega) (by omega), nI_clamp (by omega), if_neg (by decide), nI_1, Ar_fl j (k + 1) _ (by omega), fillL_s]
theorem Tw_clear {E : mEn} {d : Nat} {Q : mPost} {σ : mSt} {w : Nat → Int64} (hQ : ∀ υ, qt (STc 35) σ υ → DR υ (fun _ => 0) w → (∀ k, υ.1 44 k = σ.1 44 k) → Q none υ) : WP E (d + 2) mTw_clear 0 [.ref 35] [] σ Q := by
  have L := Ar_fl (E := E) (d := d) (Q := fun r σ' => WP E (d + 1) mNa_clear 8 [.ref 36] (r.toList ++ []) σ' (fun r σ' => WP E (d + 2) mTw_clear 7 [.ref 35] (r.toList ++ []) σ' Q)) 20 0 σ (by omega)
  rw [show nI 0 = 0 from rfl, tl_n] at L
  rw [bTw_clear_0 T35, bNa_clear_0 T35, bAr_filll_0 (n0 := 20) rfl (by omega)]
  refine Eq.mpr (congrArg id L) ?_
  rw [bNa_clear_8 T35, tl_n, bTw_clear_7 T35, bDa_clear_0 T35, tl_n, bTw_clear_22 T35]
  refine hQ _ ?_ ⟨0, 0, 0, 0, ⟨⟨by omega, by omega, by omega, by omega, by omega⟩, ⟨rfl, rfl⟩, ⟨rfl, rfl⟩, ⟨rfl, rfl⟩, ⟨rfl, rfl⟩, ⟨rfl, rfl⟩, ⟨rfl, 0, by omega, rfl⟩, fun p hp => absurd hp (by omega), fun p hp => absurd hp (by omega), fun p hp => absurd hp (by omega), ⟨0, by decide, rfl⟩, fun p hp => absurd hp (by omega), ⟨⟨fun k hk => absurd hk (by omega), fun k _ hk => ?_⟩, ⟨fun k hk => absurd hk (by omega), fun k _ hk => ?_⟩, ⟨fun k hk => absurd hk (by omega), fun k _ hk => ?_⟩⟩, ⟨rfl, Or.inl rfl⟩⟩, rfl, by omega, fun _ _ _ => ⟨rfl, rfl, rfl⟩, fun _ _ _ => rfl, rfl⟩ (fun k => rfl)
  · repeat' (refine qt_sI ?_ rfl)
    intro o k ho
    refine ⟨rfl, ?_⟩
    show (if o = 37 ∧ 0 ≤ k ∧ k < 0 + 20 then (0 : Int64) else σ.2 o k) = _
    refine if_neg (fun g => ?_)
    rw [g.1] at ho
    exact absurd ho (by simp [STc])
  · show (if 37 = 37 ∧ 0 ≤ 0 + k ∧ 0 + k < 0 + 20 then (0 : Int64) else σ.2 37 (0 + k)) = 0
    exact if_pos ⟨rfl, by omega, by omega⟩
  · show (if 37 = 37 ∧ 0 ≤ 8 + k ∧ 8 + k < 0 + 20 then (0 : Int64) else σ.2 37 (8 + k)) = 0
    exact if_pos ⟨rfl, by omega, by omega⟩
  · show (if 37 = 37 ∧ 0 ≤ 12 + k ∧ 12 + k < 0 + 20 then (0 : Int64) else σ.2 37 (12 + k)) = 0
    exact if_pos ⟨rfl, by omega, by omega⟩
def S6o (o k : Nat) : Bool := o == 6 && decide (2 ≤ k) && decide (k ≤ 10)
theorem To_open {E : mEn} {d : Nat} {Q : mPost} {σ : mSt} {n m : Nat} (hm : σ.1 6 2 = nI m) (hm9 : m ≤ 900) (hn : n ≤ m) (hk : RKw σ) (hQ : ∀ υ, qt S6o σ υ → COk υ (σ.1 7) n 0 → υ.1 6 2 = 0 → υ.1 6 10 = -1 → Q none υ) : WP E (d + 2) mTo_open 0 [.ref 6, .int (nI n)] [] σ Q := by
  have e1 : (if σ.1 6 2 < nI n then σ.1 6 2 else nI n) = nI n := by rw [hm, if_neg (nI_nlt hn (by omega))]
  rw [bTo_open_0, e1]
  have e2 : (if (0 : Int32) < nI n then nI n else 0) = nI n := nI_max (by omega)
  rw [e2, bTo_open_36]
  have q0 : qt S6o σ (sI (sI (sI (sI (sI σ 6 3 (nI n)) 6 2 0) 6 6 0) 6 9 0) 6 10 (-1)) := qt_sI (qt_sI (qt_sI (qt_sI (qt_sI qt_rf rfl) rfl) rfl) rfl) rfl
  refine To_advance (T := σ.1 7) (n := n) (q := 0) rfl rfl rfl (by omega) (by omega) (fun υ q1 g => ?_)
  rw [tl_n, bTo_open_40]
  refine hQ υ (qt_tr q0 (qt_mono q1 (fun o k h => by simp only [S6, S6o, Bool.and_eq_true, decide_eq_true_eq, beq_iff_eq] at h ⊢; omega))) ⟨?_, g, ?_, ?_, fun k hk' => ?_, by omega, by omega, ?_⟩ ?_ ?_
  · rw [(q1 6 9 rfl).1]; rfl
  · exact funext fun k => (q1 7 k rfl).1
  · rw [(q1 6 3 rfl).1]; rfl
  · rw [(q1 8 k rfl).2]; exact hk k hk'
  · rw [(q1 6 10 rfl).1]; rfl
  · rw [(q1 6 2 rfl).1]; rfl
  · rw [(q1 6 10 rfl).1]; rfl
