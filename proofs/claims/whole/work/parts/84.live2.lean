/-! live: a step of the class, a step of the reference -/
theorem Tw_handOn_full {E : mEn} {d : Nat} {Q : mPost} {σ : mSt} {t np no nl nk dy : Nat} {c : Nat → Int32} {w : Nat → Int64} {a1 a2 a3 a4 a5 : Int32} {u : Value} (ht : isT t) (hT : TRel σ t c w np no nl nk dy) (hk : ¬ nk < 40) : WP E (d + 1) mTw_handOn 0 [.ref t, .int a1, .int a2, .int a3, .int a4, .int a5, u] [] σ Q = Q (some (.int (-1))) σ := by
  obtain ⟨⟨b1, b2, b3, b4, b5⟩, ⟨t1, c1⟩, ⟨t2, c2⟩, ⟨t3, c3⟩, ⟨t4, c4⟩, -⟩ := id hT
  rw [bTw_handOn_0 ht, t4, Pr_room ht t4 b4, tl_s, bTw_handOn_16 ht, b2i_f hk, if_pos rfl, bTw_handOn_36 ht]
theorem Li_hasBaked {E : mEn} {d : Nat} {Q : mPost} {σ : mSt} {v t l np no nl nk dy : Nat} {c k : Nat → Int32} {w : Nat → Int64} {u : Value} (ht : isT t) (hv : isV v) (hT : TRel σ t c w np no nl nk dy) (hl : l < nl) (hL : LR v k σ)
    (hQ1 : bkOk c l → ∀ υ, qt (SLd t v) σ υ → GB σ υ t → TRel υ t (bkF c l np nk (b2i (wtP c (c (42 + l))))) w np no nl nk dy → LR v (upd (upd k 42 (k 42 + cF c l (b2i (wtP c (c (42 + l)))))) 44 (k 44 + b2i (wtP c (c (42 + l))))) υ → Q (some (.int 1)) υ) (hQ0 : ¬ bkOk c l → Q (some (.int 0)) σ) : WP E (d + 6) mLi_hasBaked 0 [.ref v, .ref t, .int (nI l), u] [] σ Q := by
  have tb := isT_lt ht
  have vb := isV_bd hv
  rw [bLi_hasBaked_0 ht hv, Tw_canBake ht hT hl, tl_s, bLi_hasBaked_5 ht hv]
  by_cases ok : bkOk c l
  rotate_left
  · rw [b2i_f ok, ite_nn rfl, bLi_hasBaked_8 ht hv]
    exact hQ0 ok
  rw [b2i_t ok, if_pos i10, bLi_hasBaked_10 ht hv, Tw_rainsOn ht hT hl ok.1, tl_s, bLi_hasBaked_15 ht hv]
  obtain ⟨l2, l3, l4, l5, l6, l7, l8⟩ := hL
  have FIN : ∀ σ' : mSt, qt (fun o _ => o == v) σ σ' → qt (SLd t v) σ σ' → (∀ i, i ≠ 7 → σ'.1 v i = σ.1 v i) → σ'.1 v 7 = k 44 + b2i (wtP c (c (42 + l))) → WP E (d + 6) mLi_hasBaked 30 [.ref v, .ref t, .int (nI l), .int (b2i (wtP c (c (42 + l))))] [] σ' Q := fun σ' q q1 g g7 => by
    have hT' := TRel_q q (fun j x hj _ _ => by simp only [beq_eq_false_iff_ne]; omega) hT
    rw [bLi_hasBaked_30 ht hv]
    refine Sh_settle vb.2.2 ht hT' hl (fun υ q2 g2 => ?_)
    have hT2 := TRel_q q2 (fun j x hj _ _ => SH_T vb.2.2 ht hj) hT'
    have v2 : ∀ i, υ.1 v i = σ'.1 v i := fun i => (q2 v i SHs_v).1
    rw [tl_n, bLi_hasBaked_40 ht hv]
    refine Tw_bringOut vb.2.2 ht hT2 hl ok g2 (fun φ q3 g3 h3 => ?_)
    have v3 : ∀ i, φ.1 v i = σ'.1 v i := fun i => ((q3 v i (STn_v ht hv)).1).trans (v2 i)
    rw [tl_s, bLi_hasBaked_54 ht hv, v2 5, g 5 (by omega), l5]
    refine hQ1 ok _ (qt_sI (qt_tr q1 (qt_tr (qt_mono q2 (fun o k => SHs_Ld)) (qt_mono q3 (fun o k => STn_Ld)))) (v_Ld (by omega))) ?_ ?_ ⟨?_, ?_, ?_, ?_, ?_, ?_, ?_⟩
    · refine GB_tr (GB_tr (GB_e (fun x => ?_)) g3) (GB_e (fun x => by rw [sI_n (by omega)]))
      rw [(q2 _ _ (SH_T vb.2.2 ht (by omega))).1]
      exact (q _ _ (by simp only [beq_eq_false_iff_ne]; omega)).1
    · exact TRel_q (S := fun o _ => o == v) (qt_sI qt_rf (by simp)) (fun j x hj _ _ => by simp only [beq_eq_false_iff_ne]; omega) h3
    · rw [sI_n (by omega), v3, g 2 (by omega), l2, upd_n (by omega), upd_n (by omega)]
    · rw [sI_n (by omega), v3, g 3 (by omega), l3, upd_n (by omega), upd_n (by omega)]
    · rw [sI_n (by omega), v3, g 4 (by omega), l4, upd_n (by omega), upd_n (by omega)]
    · rw [sI_e, upd_n (by omega), upd_e]
    · rw [sI_n (by omega), v3, g 6 (by omega), l6, upd_n (by omega), upd_n (by omega)]
    · rw [sI_n (by omega), v3, g7, upd_e]
    · rw [sI_n (by omega), v3, g 8 (by omega), l8, upd_n (by omega), upd_n (by omega)]
  by_cases z : wtP c (c (42 + l))
  · rw [b2i_t z] at FIN ⊢
    rw [if_neg i10, bLi_hasBaked_20 ht hv, l7]
    refine FIN _ (qt_sI qt_rf (by simp)) (qt_sI qt_rf (v_Ld (by omega))) (fun i hi => by rw [sI_n (Or.inr hi)]) sI_e
  · rw [b2i_f z] at FIN ⊢
    rw [if_pos rfl]
    exact FIN σ qt_rf qt_rf (fun _ _ => rfl) (by rw [l7, Int32.add_zero])
theorem LR_T {v t : Nat} {k : Nat → Int32} {σ τ : mSt} (ht : isT t) (hv : isV v) (q : qt (STn t) σ τ) (h : LR v k σ) : LR v k τ := LR_q q (fun i => STn_v ht hv) h
theorem Li_isDone {E : mEn} {d : Nat} {Q : mPost} {σ : mSt} {v t np no nl nk dy r s : Nat} {S : lvS} {w : Nat → Int64} {u4 u5 u6 u7 u8 : Value} (ht : isT t) (hv : isV v) (hT : TRel σ t S.1 w np no nl nk dy) (hL : LR v S.2 σ) (hr : r < 60) (hp : stepP (fun j => S.1 (324 + 9 * s + j)) (fun j => σ.1 (t + 13) (r * 7 + j)) np no nl) (hk : ∃ x, x < 6 ∧ S.1 (324 + 9 * s) = nI x)
    (hQ : ∀ υ, qt (SLd t v) σ υ → GB σ υ t → isT2 υ t (dsF np no S (324 + 9 * s)).1.1 w np no nl → LR v (dsF np no S (324 + 9 * s)).1.2 υ → Q (some (.int (dsF np no S (324 + 9 * s)).2)) υ) : WP E (d + 8) mLi_isDone 0 [.ref v, .ref t, .int (σ.1 (t + 13) (r * 7)), .int (nI r), u4, u5, u6, u7, u8] [] σ Q := by
  obtain ⟨⟨b1, b2, b3, b4, b5⟩, ⟨t1, c1⟩, ⟨t2, c2⟩, ⟨t3, c3⟩, ⟨t4, c4⟩, ⟨t5, c5⟩, c6, gP, gO, gL, gB, gK, -⟩ := id hT
  obtain ⟨x, hx, ek⟩ := hk
  have e3 : cN S.1 3 = nk := by unfold cN; rw [c4, nI_clamp (by omega)]
  have pre : ∀ y : Int32, WP E (d + 8) mLi_isDone 0 [.ref v, .ref t, .int y, .int (nI r), u4, u5, u6, u7, u8] [] σ Q = WP E (d + 8) mLi_isDone 34 [.ref v, .ref t, .int y, .int (nI r), .ref (t + 12), .int (σ.1 (t + 13) (r * 7 + 1)), .int (σ.1 (t + 13) (r * 7 + 2)), .int (σ.1 (t + 13) (r * 7 + 3)), u8] [.int y] σ Q := fun y => by
    rw [bLi_isDone_0 ht hv, Da_cellD (j := 1) (x := 1) ht hr (by omega) rfl, tl_s, bLi_isDone_13 ht hv, Da_cellD (j := 2) ht hr (by omega) rfl, tl_s, bLi_isDone_22 ht hv, Da_cellD (j := 3) ht hr (by omega) rfl, tl_s, bLi_isDone_31 ht hv]
  have nk6 : ∀ y, 6 ≤ y → y < 2 ^ 31 → S.1 (324 + 9 * s) = nI y → False := fun y h1 h2 h3 => by
    have := (nI_eq (by omega) h2).mp (ek.symm.trans h3)
    omega
  rw [pre]
  dsimp only [stepP] at hp
  have w0 : S.1 (324 + 9 * s + 0) = S.1 (324 + 9 * s) := rfl
  have f0 : σ.1 (t + 13) (r * 7 + 0) = σ.1 (t + 13) (r * 7) := rfl
  rw [w0, f0] at hp
  have clm : ∀ j y, y < 2 ^ 31 → S.1 (324 + 9 * s + j) = nI y → cN S.1 (324 + 9 * s + j) = y := fun j y h1 h2 => by unfold cN; rw [h2, nI_clamp h1]
  have ne : ∀ a b : Nat, a ≠ b → a < 6 → b < 6 → ¬ nI a = nI b := fun a b h1 h2 h3 h4 => h1 ((nI_eq (by omega) (by omega)).mp h4)
  rcases hp with ⟨k0, f, f1, f2, f3, f4, f5, ⟨n, n1, n2, en⟩, ⟨l, hl, el⟩, ⟨p, q, hpp, hqq, hpq, ep, eq⟩, m, hm, em⟩ | ⟨k0, f, f1, n, hn, en⟩ | ⟨k0, f, f1, l, hl, el⟩ | ⟨k0, f, f1, n, n1, n2, en⟩ | ⟨k0, f, f1, f2, ⟨p, hpp, ep⟩, n, n1, n2, en⟩ | ⟨k0, f, f1, f2, f3, ⟨p, hpp, ep⟩, ⟨q, hqq, eq⟩, n, n1, n2, en⟩ | ⟨k0, -⟩ | ⟨k0, -⟩ | ⟨k0, -⟩
  · -- promise
    rw [f, f1, f2, f3, en, el, ep, bLi_isDone_31_s10, bLi_isDone_88 ht hv, Tw_isBaked ht t3 b3 hl (gL l hl), tl_s, bLi_isDone_94 ht hv]
    unfold dsF at hQ
    rw [if_pos k0, clm 2 l (by omega) el, clm 3 p (by omega) ep, clm 4 q (by omega) eq, e3, c4] at hQ
    by_cases hb : S.1 (74 + l) < 0
    rotate_left
    · rw [if_pos (Or.inr hb)] at hQ
      rw [b2i_t hb, if_pos i10, bLi_isDone_129 ht hv, bLi_isDone_130 ht hv (Or.inl rfl)]
      exact hQ σ qt_rf (GB_e fun _ => rfl) ⟨nk, dy, hT⟩ hL
    rw [b2i_f (not_not_intro hb), ite_nn rfl, bLi_isDone_97 ht hv, Da_cellD (j := 4) ht hr (by omega) rfl, tl_s, bLi_isDone_111 ht hv, Da_cellD (j := 5) ht hr (by omega) rfl, tl_s, bLi_isDone_118 ht hv, f4, f5, eq, em]
    by_cases h40 : nk < 40
    · rw [if_neg (fun g => g.elim (fun y => by have := (nI_eq (by omega) (by omega)).mp y; omega) (fun y => y hb))] at hQ
      refine Tw_handOn ht hT h40 n1 n2 hl hpp hqq hpq hm (fun υ q1 g1 h1 => ?_)
      rw [tl_s, bLi_isDone_121 ht hv, if_neg (nI_m1 (by omega)), bLi_isDone_125 ht hv, bLi_isDone_130 ht hv (Or.inr rfl)]
      rw [en, el, em] at hQ
      exact hQ υ (qt_mono q1 (fun o k => STn_Ld)) g1 ⟨nk + 1, dy, h1⟩ (LR_T ht hv q1 hL)
    · rw [if_pos (Or.inl (by rw [show nk = 40 by omega]))] at hQ
      rw [Tw_handOn_full ht hT h40, tl_s, bLi_isDone_121 ht hv, if_pos rfl, bLi_isDone_129 ht hv, bLi_isDone_130 ht hv (Or.inl rfl)]
      exact hQ σ qt_rf (GB_e fun _ => rfl) ⟨nk, dy, hT⟩ hL
  · -- break
    rw [f, f1, en, bLi_isDone_31_s19, bLi_isDone_131 ht hv]
    unfold dsF at hQ
    rw [if_neg (by rw [k0]; decide), if_pos k0, clm 1 n (by omega) en, e3] at hQ
    have cv : brOk S.1 nk n = (n < nk ∧ S.1 (82 + 6 * n + 5) = 0 ∧ S.1 (74 + (S.1 (82 + 6 * n + 1)).toNatClampNeg) < 0) := rfl
    refine Tw_release ht hT (by omega) (fun ok υ q1 g1 h1 => ?_) (fun nok => ?_)
    · rw [tl_s, bLi_isDone_137 ht hv (Or.inr rfl)]
      rw [if_pos (cv ▸ ok)] at hQ
      exact hQ υ (qt_mono q1 (fun o k => STn_Ld)) g1 ⟨nk, dy, h1⟩ (LR_T ht hv q1 hL)
    · rw [tl_s, bLi_isDone_137 ht hv (Or.inl rfl)]
      rw [if_neg (cv ▸ nok)] at hQ
      exact hQ σ qt_rf (GB_e fun _ => rfl) ⟨nk, dy, hT⟩ hL
  · -- bake
    rw [f, f1, el, bLi_isDone_31_s15, bLi_isDone_138 ht hv]
    unfold dsF at hQ
    rw [if_neg (by rw [k0]; decide), if_neg (by rw [k0]; decide), if_pos k0, clm 1 l (by omega) el, e3] at hQ
    refine Li_hasBaked ht hv hT hl hL (fun ok υ q1 g1 h1 h2 => ?_) (fun nok => ?_)
    · rw [tl_s, bLi_isDone_145 ht hv (Or.inr rfl)]
      rw [if_pos ok] at hQ
      exact hQ υ q1 g1 ⟨nk, dy, h1⟩ h2
    · rw [tl_s, bLi_isDone_145 ht hv (Or.inl rfl)]
      rw [if_neg nok] at hQ
      exact hQ σ qt_rf (GB_e fun _ => rfl) ⟨nk, dy, hT⟩ hL
  · -- wait
    rw [f, f1, en, bLi_isDone_31_s16, bLi_isDone_146 ht hv, bLi_hasWaited_0 ht hv, t5]
    unfold dsF at hQ
    rw [if_neg (by rw [k0]; decide), if_neg (by rw [k0]; decide), if_neg (by rw [k0]; decide), if_pos k0, clm 1 n (by omega) en, c5] at hQ
    by_cases z : dy < 99
    · rw [if_pos (nI_lt z (by omega))] at hQ
      rw [if_pos (nI_lt z (by omega)), bLi_hasWaited_11 ht hv]
      refine Li_wa_loop ht hv n2 n 0 dy S σ _ (by omega) hT hL.1 (fun υ q1 g1 g2 => ?_)
      obtain ⟨dy', g1⟩ := g1
      rw [tl_s, bLi_isDone_153 ht hv (Or.inr rfl)]
      have tb := isT_lt ht
      have vb := isV_bd hv
      have ov : ∀ i, 2 < i → υ.1 v i = σ.1 v i := fun i hi => (q1 v i (by simp only [S16, Bool.or_eq_false_iff, Bool.and_eq_false_iff, beq_eq_false_iff_ne]; omega)).1
      have kk : ∀ (j : Nat) (S : lvS) (i : Nat), i ≠ 39 → (waF no j S).2 i = S.2 i := by
        intro j
        induction j with
        | zero => intro S i hi; rfl
        | succ j ih =>
          intro S i hi
          rw [waF]
          split
          · rw [ih _ i hi]
            exact upd_n hi
          · rfl
      obtain ⟨l2, l3, l4, l5, l6, l7, l8⟩ := hL
      refine hQ υ (qt_mono q1 (fun o k => S16_Ld)) (GB_e fun x => (q1 _ x (by simp only [S16, Bool.or_eq_false_iff, Bool.and_eq_false_iff, beq_eq_false_iff_ne]; omega)).1) ⟨nk, dy', g1⟩ ⟨g2, ?_, ?_, ?_, ?_, ?_, ?_⟩
      · rw [ov 3 (by omega), kk _ _ _ (by omega)]; exact l3
      · rw [ov 4 (by omega), kk _ _ _ (by omega)]; exact l4
      · rw [ov 5 (by omega), kk _ _ _ (by omega)]; exact l5
      · rw [ov 6 (by omega), kk _ _ _ (by omega)]; exact l6
      · rw [ov 7 (by omega), kk _ _ _ (by omega)]; exact l7
      · rw [ov 8 (by omega), kk _ _ _ (by omega)]; exact l8
    · have ew : waF no n S = S := by
        obtain ⟨m, rfl⟩ : ∃ m, n = m + 1 := ⟨n - 1, by omega⟩
        rw [waF, c5, if_neg (nI_nlt (by omega) (by omega))]
      rw [if_neg (nI_nlt (by omega) (by omega)), ew] at hQ
      rw [if_neg (nI_nlt (by omega) (by omega)), bLi_hasWaited_9 ht hv, tl_s, bLi_isDone_153 ht hv (Or.inl rfl)]
      exact hQ σ qt_rf (GB_e fun _ => rfl) ⟨nk, dy, hT⟩ hL
  · -- eat
    rw [f, f1, f2, ep, en, bLi_isDone_31_s17, bLi_isDone_154 ht hv]
    unfold dsF at hQ
    rw [if_neg (by rw [k0]; decide), if_neg (by rw [k0]; decide), if_neg (by rw [k0]; decide), if_neg (by rw [k0]; decide), if_neg (by rw [k0]; decide), clm 1 p (by omega) ep, en] at hQ
    dsimp only at hQ
    refine Tw_feast ht hT hpp (fun υ q1 g1 h1 => ?_)
    have tb := isT_lt ht
    have vb := isV_bd hv
    have v1 : ∀ i, υ.1 v i = σ.1 v i := fun i => (q1 v i (STn_v ht hv)).1
    obtain ⟨l2, l3, l4, l5, l6, l7, l8⟩ := hL
    have FIN : ∀ y : Int32, y = (if eatM S.1 p (nI n) ≤ 0 then 0 else 1) → Q (some (.int y)) (sI υ v 6 (υ.1 v 6 + eatM S.1 p (nI n))) := fun y ey => by
      rw [ey]
      refine hQ _ (qt_sI (qt_mono q1 (fun o k => STn_Ld)) (v_Ld (by omega))) (GB_tr g1 (GB_e (fun x => by rw [sI_n (by omega)]))) ⟨nk, dy, TRel_q (S := fun o _ => o == v) (qt_sI qt_rf (by simp)) (fun j x hj _ _ => by simp only [beq_eq_false_iff_ne]; omega) h1⟩ ⟨?_, ?_, ?_, ?_, ?_, ?_, ?_⟩
      · rw [sI_n (by omega), v1, l2, upd_n (by omega)]
      · rw [sI_n (by omega), v1, l3, upd_n (by omega)]
      · rw [sI_n (by omega), v1, l4, upd_n (by omega)]
      · rw [sI_n (by omega), v1, l5, upd_n (by omega)]
      · rw [sI_e, v1, l6, upd_e]
      · rw [sI_n (by omega), v1, l7, upd_n (by omega)]
      · rw [sI_n (by omega), v1, l8, upd_n (by omega)]
    rw [tl_s, bLi_isDone_162 ht hv]
    by_cases z : eatM S.1 p (nI n) ≤ 0
    · rw [if_pos z, bLi_isDone_184 ht hv, bLi_isDone_185 ht hv (Or.inl rfl)]
      exact FIN 0 (by rw [if_pos z])
    · rw [if_neg z, bLi_isDone_180 ht hv, bLi_isDone_185 ht hv (Or.inr rfl)]
      exact FIN 1 (by rw [if_neg z])
  · -- pay
    rw [f, f1, f2, f3, ep, eq, en, bLi_isDone_31_s18, bLi_isDone_186 ht hv]
    unfold dsF at hQ
    rw [if_neg (by rw [k0]; decide), if_neg (by rw [k0]; decide), if_neg (by rw [k0]; decide), if_neg (by rw [k0]; decide), if_pos k0, clm 1 p (by omega) ep, clm 2 q (by omega) eq, en] at hQ
    refine Tw_handMoney ht hT hpp hqq (fun ok υ q1 g1 h1 => ?_) (fun nok => ?_)
    · rw [tl_s, bLi_isDone_196 ht hv (Or.inr rfl)]
      rw [if_pos ok] at hQ
      exact hQ υ (qt_mono q1 (fun o k => STn_Ld)) g1 ⟨nk, dy, h1⟩ (LR_T ht hv q1 hL)
    · rw [tl_s, bLi_isDone_196 ht hv (Or.inl rfl)]
      rw [if_neg nok] at hQ
      exact hQ σ qt_rf (GB_e fun _ => rfl) ⟨nk, dy, hT⟩ hL
  · exact (nk6 6 (by omega) (by omega) k0).elim
  · exact (nk6 7 (by omega) (by omega) k0).elim
  · exact (nk6 8 (by omega) (by omega) k0).elim
