/-! live: the class's rows are gone through as the reference's steps -/
theorem stepP_w {C F : Nat → Int32} {np no nl : Nat} (h : stepP C F np no nl) : (∃ x y, x < 6 ∧ C 0 = nI x ∧ F 0 = nI y ∧ y < 20 ∧ y ≠ 26) ∨ (C 0 = nI 6 ∧ F 0 = nI 20) ∨ (C 0 = nI 7 ∧ F 0 = nI 25 ∧ F 1 = C 1 ∧ ∃ n, 1 ≤ n ∧ n ≤ 99 ∧ C 1 = nI n) ∨ (C 0 = nI 8 ∧ F 0 = nI 27) := by
  unfold stepP at h
  rcases h with ⟨k, f, -⟩ | ⟨k, f, -⟩ | ⟨k, f, -⟩ | ⟨k, f, -⟩ | ⟨k, f, -⟩ | ⟨k, f, -⟩ | ⟨k, f, -⟩ | ⟨k, f, f1, g⟩ | ⟨k, f⟩
  · exact Or.inl ⟨0, 10, by omega, k, f, by omega, by omega⟩
  · exact Or.inl ⟨1, 19, by omega, k, f, by omega, by omega⟩
  · exact Or.inl ⟨2, 15, by omega, k, f, by omega, by omega⟩
  · exact Or.inl ⟨3, 16, by omega, k, f, by omega, by omega⟩
  · exact Or.inl ⟨4, 17, by omega, k, f, by omega, by omega⟩
  · exact Or.inl ⟨5, 18, by omega, k, f, by omega, by omega⟩
  · exact Or.inr (Or.inl ⟨k, f⟩)
  · exact Or.inr (Or.inr (Or.inl ⟨k, f, f1, g⟩))
  · exact Or.inr (Or.inr (Or.inr ⟨k, f⟩))
theorem bkF_o {c : Nat → Int32} {l np nk : Nat} {wet : Int32} {i : Nat} (hb : bkN c l < 8) (hl : l < 8) (hn : np ≤ 8) (hi : 322 ≤ i) : bkF c l np nk wet i = c i := by
  unfold bkF bkM
  rw [upd_n (by omega), upd_n (by omega), bkL_o (by omega) hn]
theorem dsF_c {σ : mSt} {t np no nl nk dy s : Nat} {S : lvS} {w : Nat → Int64} {F : Nat → Int32} (hT : TRel σ t S.1 w np no nl nk dy) (hp : stepP (fun j => S.1 (324 + 9 * s + j)) F np no nl) (hx : ∃ x, x < 6 ∧ S.1 (324 + 9 * s) = nI x) {i : Nat} (hi : 322 ≤ i) : (dsF np no S (324 + 9 * s)).1.1 i = S.1 i := by
  obtain ⟨⟨b1, b2, b3, b4, b5⟩, ⟨t1, c1⟩, ⟨t2, c2⟩, ⟨t3, c3⟩, ⟨t4, c4⟩, ⟨t5, c5⟩, c6, gP, gO, gL, gB, gK, -⟩ := id hT
  obtain ⟨x, hx, ek⟩ := hx
  have e3 : cN S.1 3 = nk := by unfold cN; rw [c4, nI_clamp (by omega)]
  have nk6 : ∀ y, 6 ≤ y → y < 2 ^ 31 → S.1 (324 + 9 * s) = nI y → False := fun y h1 h2 h3 => by
    have := (nI_eq (by omega) h2).mp (ek.symm.trans h3)
    omega
  dsimp only [stepP] at hp
  rw [show S.1 (324 + 9 * s + 0) = S.1 (324 + 9 * s) from rfl] at hp
  have clm : ∀ j y, y < 2 ^ 31 → S.1 (324 + 9 * s + j) = nI y → cN S.1 (324 + 9 * s + j) = y := fun j y h1 h2 => by unfold cN; rw [h2, nI_clamp h1]
  rcases hp with ⟨k0, f, f1, f2, f3, f4, f5, ⟨n, n1, n2, en⟩, ⟨l, hl, el⟩, ⟨p, q, hpp, hqq, hpq, ep, eq⟩, m, hm, em⟩ | ⟨k0, f, f1, n, hn, en⟩ | ⟨k0, f, f1, l, hl, el⟩ | ⟨k0, f, f1, n, n1, n2, en⟩ | ⟨k0, f, f1, f2, ⟨p, hpp, ep⟩, n, n1, n2, en⟩ | ⟨k0, f, f1, f2, f3, ⟨p, hpp, ep⟩, ⟨q, hqq, eq⟩, n, n1, n2, en⟩ | ⟨k0, -⟩ | ⟨k0, -⟩ | ⟨k0, -⟩
  · unfold dsF
    rw [if_pos k0, clm 2 l (by omega) el, clm 3 p (by omega) ep, clm 4 q (by omega) eq, e3, c4]
    split
    · rfl
    · rename_i z
      have h40 : nk < 40 := by
        refine Nat.lt_of_not_le (fun y => z (Or.inl (by rw [show nk = 40 by omega])))
      dsimp only
      simp (disch := omega) only [mkF, mkA, mkB, mkC, mkD, upd_n]
  · unfold dsF
    rw [if_neg (by rw [k0]; decide), if_pos k0, clm 1 n (by omega) en, e3]
    split
    · rename_i z
      obtain ⟨-, -, ⟨-, p, hpp, ep⟩, ⟨-, q, hqq, eq⟩, -⟩ := gK n z.1
      dsimp only
      unfold brG
      rw [ep, eq, nI_clamp (by omega), nI_clamp (by omega)]
      simp (disch := omega) only [brF, upd_n]
    · rfl
  · unfold dsF
    rw [if_neg (by rw [k0]; decide), if_neg (by rw [k0]; decide), if_pos k0, clm 1 l (by omega) el, e3]
    split
    · obtain ⟨bk, hbk, ebk⟩ := (gL l hl).1.2
      have ebn : bkN S.1 l = bk := by unfold bkN; rw [ebk, nI_clamp (by omega)]
      dsimp only
      exact bkF_o (by omega) (by omega) b1 hi
    · rfl
  · unfold dsF
    rw [if_neg (by rw [k0]; decide), if_neg (by rw [k0]; decide), if_neg (by rw [k0]; decide), if_pos k0]
    dsimp only
    exact waF_c _ S i (by omega) (by omega)
  · unfold dsF
    rw [if_neg (by rw [k0]; decide), if_neg (by rw [k0]; decide), if_neg (by rw [k0]; decide), if_neg (by rw [k0]; decide), if_neg (by rw [k0]; decide), clm 1 p (by omega) ep]
    dsimp only
    simp (disch := omega) only [eatF, upd_n]
  · unfold dsF
    rw [if_neg (by rw [k0]; decide), if_neg (by rw [k0]; decide), if_neg (by rw [k0]; decide), if_neg (by rw [k0]; decide), if_pos k0, clm 1 p (by omega) ep, clm 2 q (by omega) eq]
    split
    · dsimp only
      simp (disch := omega) only [payF, upd_n]
    · rfl
  · exact (nk6 6 (by omega) (by omega) k0).elim
  · exact (nk6 7 (by omega) (by omega) k0).elim
  · exact (nk6 8 (by omega) (by omega) k0).elim
theorem LR_i {v i : Nat} {k : Nat → Int32} {τ : mSt} {x : Int32} {j : Nat} (h : LR v k τ) (hij : (i = 3 ∧ j = 40) ∨ (i = 4 ∧ j = 41)) : LR v (upd k j x) (sI τ v i x) := by
  obtain ⟨l2, l3, l4, l5, l6, l7, l8⟩ := h
  rcases hij with ⟨rfl, rfl⟩ | ⟨rfl, rfl⟩
  · refine ⟨?_, ?_, ?_, ?_, ?_, ?_, ?_⟩
    · rw [sI_n (by omega), upd_n (by omega)]; exact l2
    · rw [sI_e, upd_e]
    · rw [sI_n (by omega), upd_n (by omega)]; exact l4
    · rw [sI_n (by omega), upd_n (by omega)]; exact l5
    · rw [sI_n (by omega), upd_n (by omega)]; exact l6
    · rw [sI_n (by omega), upd_n (by omega)]; exact l7
    · rw [sI_n (by omega), upd_n (by omega)]; exact l8
  · refine ⟨?_, ?_, ?_, ?_, ?_, ?_, ?_⟩
    · rw [sI_n (by omega), upd_n (by omega)]; exact l2
    · rw [sI_n (by omega), upd_n (by omega)]; exact l3
    · rw [sI_e, upd_e]
    · rw [sI_n (by omega), upd_n (by omega)]; exact l5
    · rw [sI_n (by omega), upd_n (by omega)]; exact l6
    · rw [sI_n (by omega), upd_n (by omega)]; exact l7
    · rw [sI_n (by omega), upd_n (by omega)]; exact l8
theorem LR_38 {v : Nat} {k : Nat → Int32} {τ : mSt} {x : Int32} (h : LR v k τ) : LR v (upd k 38 x) τ := by
  obtain ⟨l2, l3, l4, l5, l6, l7, l8⟩ := h
  refine ⟨?_, ?_, ?_, ?_, ?_, ?_, ?_⟩ <;> rw [upd_n (by omega)] <;> assumption
set_option maxHeartbeats 4000000 in
theorem Li_seg {E : mEn} {D : Nat} {Q : mPost} {σ0 : mSt} {v t np no nl R : Nat} {w : Nat → Int64} {c0 : Nat → Int32} {a2 : Int32} (ht : isT t) (hv : isV v) (hR : R ≤ 60) (h3 : σ0.1 (t + 12) 3 = nI R) (f : Nat) : ∀ (s e r r' : Nat) (S : lvS) (τ : mSt) (k n : Nat), seg σ0 t c0 np no nl f s e r r' → e ≤ 30 → r' ≤ R → CX σ0 v t np no nl w c0 S τ → S.2 38 = 0 → S.2 40 = nI n → n ≤ 300 → k + 100 * (300 - n) ≤ 900000 →
    (∀ υ k' n', CX σ0 v t np no nl w c0 (exA np no f S s e) υ → (exA np no f S s e).2 38 = 0 → (exA np no f S s e).2 40 = nI n' → n ≤ n' → n' ≤ 300 → k' + 100 * (300 - n') ≤ k + 100 * (300 - n) → (∀ x, x < r ∨ r' ≤ x → υ.1 (v + 8) x = τ.1 (v + 8) x) → MDo E np no f S s e → WP E (D + 10) mLi_run 40 [.ref v, .ref t, .int a2, .int (nI r'), .int (nI k')] [] υ Q) →
    (∀ υ, CX σ0 v t np no nl w c0 (exA np no f S s e) υ → ¬ (exA np no f S s e).2 38 = 0 → MDo E np no f S s e → Q none υ) → WP E (D + 10) mLi_run 40 [.ref v, .ref t, .int a2, .int (nI r), .int (nI k)] [] τ Q := by
  have tb := isT_lt ht
  have vb := isV_bd hv
  induction f with
  | zero =>
    intro s e r r' S τ k n hs he hr hC h38 h40 hn hk K1 K2
    obtain ⟨rfl, rfl⟩ : s = e ∧ r = r' := hs
    exact K1 τ k n hC h38 h40 (Nat.le_refl _) hn (Nat.le_refl _) (fun _ _ => rfl) MDo_e
  | succ f IH =>
    intro s e r r' S τ k n hs he hr hC h38 h40 hn hk K1 K2
    rcases hs with ⟨rfl, rfl⟩ | ⟨hse, hrr, hst, hal⟩
    · refine K1 τ k n ?_ ?_ ?_ (Nat.le_refl _) hn (Nat.le_refl _) (fun _ _ => rfl) MDo_e
      · rw [exA_e]; exact hC
      · rw [exA_e]; exact h38
      · rw [exA_e]; exact h40
    have hs30 : s < 30 := by omega
    have hr60 : r < 60 := by omega
    obtain ⟨⟨nk, dy, hT⟩, hL, hq, hGB, hc⟩ := id hC
    have cS : ∀ j, j ≤ 8 → S.1 (324 + 9 * s + j) = c0 (324 + 9 * s + j) := fun j hj => hc _ (by omega) (by omega)
    have cS0 : S.1 (324 + 9 * s) = c0 (324 + 9 * s) := cS 0 (by omega)
    have F13 : ∀ υ : mSt, qt (SLr t v) σ0 υ → ∀ x, υ.1 (t + 13) x = σ0.1 (t + 13) x := fun υ q x => (q _ _ (SLr_d ht hv (Or.inr rfl))).1
    have F12 : ∀ υ : mSt, qt (SLr t v) σ0 υ → υ.1 (t + 12) 3 = nI R := fun υ q => ((q _ _ (SLr_d ht hv (Or.inl rfl))).1).trans h3
    rw [stepRow_P] at hst
    have hp : stepP (fun j => S.1 (324 + 9 * s + j)) (fun j => τ.1 (t + 13) (r * 7 + j)) np no nl := stepP_c (fun j hj => cS j hj) (fun j hj => F13 τ hq _) hst
    -- where it goes on, by the reference's place
    obtain ⟨s2, hs2, hs2e⟩ : ∃ s2, s2 ≤ e ∧ S.1 (324 + 9 * s + 8) = nI s2 := by
      rcases hal with ⟨-, a2', -⟩ | ⟨-, s1, r1, -, a3, -, -, a6, -⟩
      · exact ⟨s + 1, by omega, (cS 8 (by omega)).trans a2'⟩
      · exact ⟨s1, a3, (cS 8 (by omega)).trans a6⟩
    have eN : cN S.1 (324 + 9 * s + 8) = s2 := by unfold cN; rw [hs2e, nI_clamp (by omega)]
    have eX : exA np no (f + 1) S s e = exA np no f (doF np no (exA np no f) S s) s2 e := by rw [exA, if_neg (fun x => x.elim (fun y => by omega) (fun y => y h38)), eN]
    have d8 : ∀ (S' : lvS) (υ : mSt), CX σ0 v t np no nl w c0 S' υ → S'.1 (324 + 9 * s + 8) = nI s2 := fun S' υ g => ((g.2.2.2.2 _ (by omega) (by omega)).trans (cS 8 (by omega)).symm).trans hs2e
    rw [eX] at K1 K2
    have OVER : ∀ (S' : lvS) (υ : mSt), doF np no (exA np no f) S s = S' → CX σ0 v t np no nl w c0 S' υ → ¬ S'.2 38 = 0 → MOne E np no f S s → Q none υ := fun S' υ e1 g1 g2 g3 => by
      have g3' : MDo E np no (f + 1) S s e := MDo_s (c0 := c0) h38 hse he hs2e (by omega) (by rw [e1]; exact d8 S' υ g1) g3 (by rw [e1]; exact MDo_o g2)
      rw [e1] at K2
      rw [exA_o g2] at K2
      exact K2 υ g1 g2 g3'
    have NEXT : ∀ (S' : lvS) (υ : mSt) (k2 n2 r2 : Nat), doF np no (exA np no f) S s = S' → CX σ0 v t np no nl w c0 S' υ → S'.2 38 = 0 → S'.2 40 = nI n2 → n ≤ n2 → n2 ≤ 300 → k2 + 100 * (300 - n2) ≤ k + 100 * (300 - n) → r ≤ r2 → seg σ0 t c0 np no nl f s2 e r2 r' → (∀ x, x < r ∨ r' ≤ x → υ.1 (v + 8) x = τ.1 (v + 8) x) → MOne E np no f S s → WP E (D + 10) mLi_run 40 [.ref v, .ref t, .int a2, .int (nI r2), .int (nI k2)] [] υ Q := fun S' υ k2 n2 r2 e1 g1 g2 g3 g4 g5 g6 g7 g8 g9 g10 => by
      rw [e1] at K1 K2
      have MM : MDo E np no f S' s2 e → MDo E np no (f + 1) S s e := fun m => MDo_s (c0 := c0) h38 hse he hs2e (by omega) (by rw [e1]; exact d8 S' υ g1) g10 (by rw [e1]; exact m)
      refine IH s2 e r2 r' S' υ k2 n2 g8 he hr g1 g2 g3 g5 (by omega) (fun φ k' n' x1 x2 x3 x4 x5 x6 x7 x8 => K1 φ k' n' x1 x2 x3 (by omega) x5 (by omega) (fun x hx => ?_) (MM x8)) (fun φ x1 x2 x3 => K2 φ x1 x2 (MM x3))
      rw [x7 x (by omega), g9 x hx]
    clear K1 K2
    have l3 : τ.1 v 3 = nI n := hL.2.1.trans h40
    have WD := stepP_w hp
    obtain ⟨y, ey, hy, hy26⟩ : ∃ y, τ.1 (t + 13) (r * 7) = nI y ∧ y < 100 ∧ y ≠ 26 := by
      rcases WD with ⟨x, y, -, -, e, h1, h2⟩ | ⟨-, e⟩ | ⟨-, e, -⟩ | ⟨-, e⟩
      · exact ⟨y, e, by omega, h2⟩
      · exact ⟨20, e, by omega, by omega⟩
      · exact ⟨25, e, by omega, by omega⟩
      · exact ⟨27, e, by omega, by omega⟩
    rw [Li_turn ht hv (by omega) (show r < R by omega) hR (F12 τ hq), Li_goWord ht hv hr60 ey hy hy26, bLi_goOn_27 ht hv, l3]
    by_cases n300 : n < 300
    rotate_left
    · have e300 : n = 300 := by omega
      subst e300
      rw [if_neg (nI_nlt (by omega) (by omega)), bLi_goOn_37 ht hv, sI_n (by omega), F12 τ hq, tl_s, bLi_run_68 ht hv, Li_exit ht hv hR (by rw [sI_n (by omega)]; exact F12 τ hq)]
      refine OVER _ _ (doF_38 h40) (CX_s ht hv (by omega) hC ?_) ?_ (MOne_300 h40)
      · obtain ⟨l2, l3, l4, l5, l6, l7, l8⟩ := hL
        refine ⟨?_, ?_, ?_, ?_, ?_, ?_, ?_⟩
        · rw [sI_n (by omega), upd_n (by omega), upd_n (by omega)]; exact l2
        · rw [sI_n (by omega), upd_n (by omega), upd_n (by omega)]; exact l3
        · rw [sI_n (by omega), upd_n (by omega), upd_n (by omega)]; exact l4
        · rw [sI_n (by omega), upd_n (by omega), upd_n (by omega)]; exact l5
        · rw [sI_n (by omega), upd_n (by omega), upd_n (by omega)]; exact l6
        · rw [sI_n (by omega), upd_n (by omega), upd_n (by omega)]; exact l7
        · rw [sI_e, upd_e]
      · show ¬ upd (upd S.2 38 1) 45 1 38 = 0
        rw [upd_n (by omega), upd_e]; exact i10
    have n4 : ¬ S.2 40 = nI 300 := fun g => by have := (nI_eq (by omega) (by omega)).mp (h40.symm.trans g); omega
    rw [if_pos (nI_lt n300 (by omega)), bLi_goOn_47 ht hv, l3]
    -- the step is counted
    obtain ⟨τ1, eτ1⟩ : ∃ τ1, τ1 = sI τ v 3 (nI n + 1) := ⟨_, rfl⟩
    have C1 : CX σ0 v t np no nl w c0 (one S) τ1 := by
      rw [eτ1]
      refine CX_s ht hv (by omega) hC ?_
      rw [h40]
      exact LR_i hL (Or.inl ⟨rfl, rfl⟩)
    have q1 : qt (SLr t v) σ0 τ1 := C1.2.2.1
    have o38 : (one S).2 38 = 0 := by show upd S.2 40 (S.2 40 + 1) 38 = 0; rw [upd_n (by omega)]; exact h38
    have o40 : (one S).2 40 = nI (n + 1) := by show upd S.2 40 (S.2 40 + 1) 40 = nI (n + 1); rw [upd_e, h40, nI_1]
    have fr1 : ∀ x, τ1.1 (v + 8) x = τ.1 (v + 8) x := fun x => by rw [eτ1, sI_n (by omega)]
    have hp1 : stepP (fun j => (one S).1 (324 + 9 * s + j)) (fun j => τ1.1 (t + 13) (r * 7 + j)) np no nl := stepP_c (C := fun j => S.1 (324 + 9 * s + j)) (F := fun j => τ.1 (t + 13) (r * 7 + j)) (fun j hj => rfl) (fun j hj => (F13 τ1 q1 _).trans (F13 τ hq _).symm) hp
    obtain ⟨nk1, dy1, hT1⟩ := C1.1
    have ey1 : τ1.1 (t + 13) (r * 7) = nI y := ((F13 τ1 q1 _).trans (F13 τ hq _).symm).trans ey
    rw [← eτ1]
    rcases WD with ⟨x, y', hx, ex, ey', hy', -⟩ | ⟨k6, ey'⟩ | ⟨k7, ey', f1, N, N1, N2, eN1⟩ | ⟨k8, ey'⟩
    · -- a plain step
      have yy : y' = y := (nI_eq (by omega) (by omega)).mp (ey'.symm.trans ey)
      rw [yy] at hy'
      have ex' : S.1 (324 + 9 * s) = nI x := ex
      have xs : ∃ x, x < 6 ∧ S.1 (324 + 9 * s) = nI x := ⟨x, hx, ex'⟩
      have dF : doF np no (exA np no f) S s = plF np no (one S) (324 + 9 * s) := by
        have n6 : ∀ y, 6 ≤ y → y < 2 ^ 31 → ¬ S.1 (324 + 9 * s) = nI y := fun y h1 h2 h3 => by
          have := (nI_eq (by omega) h2).mp (ex'.symm.trans h3); omega
        unfold doF
        rw [if_neg n4, if_neg (n6 6 (by omega) (by omega)), if_neg (n6 7 (by omega) (by omega)), if_neg (n6 8 (by omega) (by omega))]
      have hal' : c0 (324 + 9 * s + 8) = nI (s + 1) ∧ seg σ0 t c0 np no nl f (s + 1) e (r + 1) r' := by
        rcases hal with ⟨-, g1, g2⟩ | ⟨g, -⟩
        · exact ⟨g1, g2⟩
        · exfalso
          rw [← cS0, ex'] at g
          rcases g with g | g <;> have := (nI_eq (by omega) (by omega)).mp g <;> omega
      have es2 : s2 = s + 1 := (nI_eq (by omega) (by omega)).mp ((hs2e.symm.trans (cS 8 (by omega))).trans hal'.1)
      have ny : ∀ z, 20 ≤ z → z < 100 → nI y ≠ nI z := fun z h1 h2 h3 => by have := (nI_eq (by omega) (by omega)).mp h3; omega
      rw [bLi_goOn_47_sD (ny 20 (by omega) (by omega)) (ny 25 (by omega) (by omega)) (ny 27 (by omega) (by omega)), bLi_goOn_150 ht hv, ← ey1]
      refine Li_isDone ht hv hT1 C1.2.1 hr60 hp1 xs (fun υ p1 p2 p3 p4 => ?_)
      have p38 := plF_38 (np := np) (no := no) (S := one S) (w := 324 + 9 * s)
      have cc : ∀ i, 322 ≤ i → i < 600 → (plF np no (one S) (324 + 9 * s)).1 i = c0 i := fun i i1 i2 => (dsF_c hT1 hp1 xs i1).trans (hc i i1 i2)
      have r8 : ∀ (φ : mSt), (∀ x, φ.1 (v + 8) x = υ.1 (v + 8) x) → ∀ x, x < r ∨ r' ≤ x → φ.1 (v + 8) x = τ.1 (v + 8) x := fun φ g x hx => by
        rw [g x, ← fr1 x]
        exact (p1 _ _ (SLd_8 ht hv)).1
      have k41 : (dsF np no (one S) (324 + 9 * s)).1.2 41 = (one S).2 41 := dsF_k (by omega) (by omega) (by omega) (by omega)
      rw [tl_s, bLi_goOn_158 ht hv]
      have FIN : ∀ φ : mSt, CX σ0 v t np no nl w c0 (plF np no (one S) (324 + 9 * s)) φ → (∀ x, φ.1 (v + 8) x = υ.1 (v + 8) x) → WP E (D + 9) mLi_goOn 171 [.ref v, .ref t, .int (nI r), .ref (t + 12), .int (τ1.1 (t + 13) (r * 7))] [] φ (fun x σ' => WP E (D + 9 + 1) mLi_run 68 [.ref v, .ref t, .int a2, .int (nI r), .int (nI k)] (x.toList ++ []) σ' Q) := fun φ g1 g2 => by
        rw [bLi_goOn_171 ht hv, nI_1, tl_s, bLi_run_68 ht hv, nI_1]
        refine NEXT _ φ (k + 1) (n + 1) (r + 1) dF g1 (p38.1.trans o38) (p38.2.trans o40) (by omega) (by omega) (by omega) (by omega) (by rw [es2]; exact hal'.2) (r8 φ g2) (MOne_pl hs30 n4 hT hp xs)
      have CXp : ∀ φ : mSt, φ = (if (dsF np no (one S) (324 + 9 * s)).2 = 0 then sI υ v 4 (υ.1 v 4 + 1) else υ) → CX σ0 v t np no nl w c0 (plF np no (one S) (324 + 9 * s)) φ := fun φ eφ => by
        have v4 : υ.1 v 4 = (one S).2 41 := p4.2.2.1.trans k41
        have base : CX σ0 v t np no nl w c0 (dsF np no (one S) (324 + 9 * s)).1 υ := ⟨p3, p4, qt_tr q1 (qt_mono p1 (fun o k => SLd_r)), GB_tr C1.2.2.2.1 p2, cc⟩
        by_cases z : (dsF np no (one S) (324 + 9 * s)).2 = 0
        · rw [eφ, if_pos z]
          unfold plF
          rw [if_pos z, ← v4]
          exact CX_s ht hv (by omega) base (LR_i p4 (Or.inr ⟨rfl, rfl⟩))
        · rw [eφ, if_neg z]
          unfold plF
          rw [if_neg z, Int32.add_zero, ← k41]
          have eu : upd (dsF np no (one S) (324 + 9 * s)).1.2 41 ((dsF np no (one S) (324 + 9 * s)).1.2 41) = (dsF np no (one S) (324 + 9 * s)).1.2 := by
            funext x
            by_cases h : x = 41
            · subst h; rw [upd_e]
            · rw [upd_n h]
          rw [eu]
          exact base
      by_cases z : (dsF np no (one S) (324 + 9 * s)).2 = 0
      · rw [z, ite_nn rfl, bLi_goOn_161 ht hv]
        exact FIN _ (CXp _ (by rw [if_pos z])) (fun x => by rw [sI_n (by omega)])
      · rw [if_pos z]
        exact FIN _ (CXp _ (by rw [if_neg z])) (fun _ => rfl)
    · -- when
      have k6' : S.1 (324 + 9 * s) = nI 6 := k6
      have yy : y = 20 := (nI_eq (by omega) (by omega)).mp (ey.symm.trans ey')
      subst yy
      obtain ⟨s1, r1, g2, g3, g4, g5, g6, g7, g8, g9, g10, g11⟩ : ∃ s1 r1, s < s1 ∧ s1 ≤ e ∧ r < r1 ∧ r1 < r' ∧ c0 (324 + 9 * s + 8) = nI s1 ∧ seg σ0 t c0 np no nl f (s + 1) s1 (r + 1) r1 ∧ σ0.1 (t + 13) (r1 * 7) = nI 26 ∧ σ0.1 (t + 13) (r1 * 7 + 6) = nI r ∧ σ0.1 (t + 13) (r * 7 + 6) = nI r1 ∧ seg σ0 t c0 np no nl f s1 e (r1 + 1) r' := by
        rcases hal with ⟨⟨g, -⟩, -⟩ | ⟨-, g⟩
        · exact absurd (cS0.symm.trans k6') g
        · exact g
      have es2 : s2 = s1 := (nI_eq (by omega) (by omega)).mp ((hs2e.symm.trans (cS 8 (by omega))).trans g6)
      have dF : doF np no (exA np no f) S s = (if isB S.1 (324 + 9 * s) = true then exA np no f (one S) (s + 1) s1 else one S) := by
        unfold doF
        rw [if_neg n4, if_pos k6', eN, es2]
      rw [bLi_goOn_47_s20, bLi_goOn_97 ht hv, Li_isTrue ht hT1 hr60 hp1 k6', tl_s, bLi_goOn_102 ht hv]
      have eB : isB (one S).1 (324 + 9 * s) = isB S.1 (324 + 9 * s) := rfl
      by_cases z : isB S.1 (324 + 9 * s) = true
      rotate_left
      · rw [if_neg z] at dF
        rw [b2i_f (by rw [eB]; exact z), if_pos rfl, bLi_goOn_111 ht hv, Da_cellD (j := 6) ht hr60 (by omega) rfl, tl_s, bLi_goOn_118 ht hv, F13 τ1 q1, g10, nI_1, bLi_goOn_120 ht hv, tl_s, bLi_run_68 ht hv, nI_1]
        exact NEXT _ τ1 (k + 1) (n + 1) (r1 + 1) dF C1 o38 o40 (by omega) (by omega) (by omega) (by omega) (by rw [es2]; exact g11) (fun x _ => fr1 x) (MOne_when hs30 n4 k6' (hs2e.trans (by rw [es2])) (by omega) hT hp (fun g => absurd g z))
      rw [if_pos z] at dF
      rw [b2i_t (by rw [eB]; exact z), if_neg i10, bLi_goOn_105 ht hv, nI_1, bLi_goOn_120 ht hv, tl_s, bLi_run_68 ht hv, nI_1]
      have MW : MDo E np no f (one S) (s + 1) s1 → MOne E np no f S s := fun m => MOne_when hs30 n4 k6' (hs2e.trans (by rw [es2])) (by omega) hT hp (fun _ => m)
      refine IH (s + 1) s1 (r + 1) r1 (one S) τ1 (k + 1) (n + 1) g7 (by omega) (by omega) C1 o38 o40 (by omega) (by omega) (fun υ k' n' x1 x2 x3 x4 x5 x6 x7 x8 => ?_) (fun υ x1 x2 x3 => OVER _ υ dF x1 x2 (MW x3))
      have qυ : qt (SLr t v) σ0 υ := x1.2.2.1
      rw [Li_turn ht hv (by omega) (show r1 < R by omega) hR (F12 υ qυ), Li_end ht hv (show r1 < 60 by omega) hr60 (by rw [F13 υ qυ]; exact g8) (by rw [F13 υ qυ]; exact g9), F13 υ qυ, ← F13 τ hq, ey, if_neg (by decide), tl_s, bLi_run_68 ht hv, nI_1]
      exact NEXT _ υ (k' + 1) n' (r1 + 1) dF x1 x2 x3 (by omega) x5 (by omega) (by omega) (by rw [es2]; exact g11) (fun x hx => by rw [x7 x (by omega)]; exact fr1 x) (MW x8)
    · -- loop
      have k7' : S.1 (324 + 9 * s) = nI 7 := k7
      have eN' : S.1 (324 + 9 * s + 1) = nI N := eN1
      have yy : y = 25 := (nI_eq (by omega) (by omega)).mp (ey.symm.trans ey')
      subst yy
      obtain ⟨s1, r1, g2, g3, g4, g5, g6, g7, g8, g9, g10, g11⟩ : ∃ s1 r1, s < s1 ∧ s1 ≤ e ∧ r < r1 ∧ r1 < r' ∧ c0 (324 + 9 * s + 8) = nI s1 ∧ seg σ0 t c0 np no nl f (s + 1) s1 (r + 1) r1 ∧ σ0.1 (t + 13) (r1 * 7) = nI 26 ∧ σ0.1 (t + 13) (r1 * 7 + 6) = nI r ∧ σ0.1 (t + 13) (r * 7 + 6) = nI r1 ∧ seg σ0 t c0 np no nl f s1 e (r1 + 1) r' := by
        rcases hal with ⟨⟨-, g⟩, -⟩ | ⟨-, g⟩
        · exact absurd (cS0.symm.trans k7') g
        · exact g
      have es2 : s2 = s1 := (nI_eq (by omega) (by omega)).mp ((hs2e.symm.trans (cS 8 (by omega))).trans g6)
      have dF : doF np no (exA np no f) S s = lpF (exA np no f) (s + 1) s1 N (one S) := by
        unfold doF
        rw [if_neg n4, if_neg (by rw [k7']; decide), if_pos k7', eN, es2, show cN S.1 (324 + 9 * s + 1) = N by unfold cN; rw [eN', nI_clamp (by omega)]]
      have w1 : τ1.1 (t + 13) (r * 7 + 1) = nI N := ((F13 τ1 q1 _).trans (F13 τ hq _).symm).trans (f1.trans eN1)
      rw [bLi_goOn_47_s25, bLi_goOn_121 ht hv, if_neg (nI_pos (by omega)), bLi_goOn_125 ht hv, if_neg (nI_ge hr60 (by omega)), bLi_goOn_134 ht hv, Da_cellD (j := 1) (x := 1) ht hr60 (by omega) rfl, tl_s, w1, bLi_goOn_145 ht hv, mOut_f hr60 (by omega), nI_clamp (by omega), if_neg (by decide), bLi_goOn_146 ht hv, nI_1, tl_s, bLi_run_68 ht hv, nI_1]
      have ML : MLp E np no f s s1 N N (one S) → MOne E np no f S s := fun m => MOne_loop hs30 N2 n4 k7' eN' (hs2e.trans (by rw [es2])) (by omega) m
      have LOOP : ∀ (m : Nat) (Sm : lvS) (τm : mSt) (km nm : Nat), m + 1 ≤ N → CX σ0 v t np no nl w c0 Sm τm → Sm.2 38 = 0 → Sm.2 40 = nI nm → n + 1 ≤ nm → nm ≤ 300 → km + (m + 1) + 100 * (300 - nm) ≤ k + 100 + 100 * (300 - (n + 1)) → τm.1 (v + 8) r = nI (m + 1) → (∀ x, x < r ∨ r' ≤ x → τm.1 (v + 8) x = τ.1 (v + 8) x) → (MLp E np no f s s1 N (m + 1) Sm → MOne E np no f S s) → lpF (exA np no f) (s + 1) s1 (m + 1) Sm = doF np no (exA np no f) S s → WP E (D + 10) mLi_run 40 [.ref v, .ref t, .int a2, .int (nI (r + 1)), .int (nI km)] [] τm Q := by
        intro m
        induction m with
        | zero =>
          intro Sm τm km nm hm c m38 m40 m1 m2 m3 m4 m5 m6 m7
          have a1 : Sm.1 (324 + 9 * s + 1) = nI N := (c.2.2.2.2 _ (by omega) (by omega)).trans ((cS 1 (by omega)).symm.trans eN')
          have a8 : Sm.1 (324 + 9 * s + 8) = nI s1 := (c.2.2.2.2 _ (by omega) (by omega)).trans g6
          rw [lpF, if_pos m38] at m7
          refine IH (s + 1) s1 (r + 1) r1 Sm τm km nm g7 (by omega) (by omega) c m38 m40 m2 (by omega) (fun υ k' n' x1 x2 x3 x4 x5 x6 x7 x8 => ?_) (fun υ x1 x2 x3 => ?_)
          · have qυ : qt (SLr t v) σ0 υ := x1.2.2.1
            have b1 : (exA np no f Sm (s + 1) s1).1 (324 + 9 * s + 1) = nI N := (x1.2.2.2.2 _ (by omega) (by omega)).trans ((cS 1 (by omega)).symm.trans eN')
            have er : υ.1 (v + 8) r = nI 1 := by rw [x7 r (by omega)]; exact m4
            rw [Li_turn ht hv (by omega) (show r1 < R by omega) hR (F12 υ qυ), Li_end ht hv (show r1 < 60 by omega) hr60 (by rw [F13 υ qυ]; exact g8) (by rw [F13 υ qυ]; exact g9), F13 υ qυ, ← F13 τ hq, ey, if_pos rfl, er, if_pos (by decide), tl_s, bLi_run_68 ht hv, nI_1]
            refine NEXT _ _ (k' + 1) n' (r1 + 1) m7.symm ?_ x2 x3 (by omega) x5 (by omega) (by omega) (by rw [es2]; exact g11) (fun x hx => ?_) (m6 (MLp_s hs30 (by omega) N2 hm a1 a8 m38 x8 (MLp_0 hs30 N2 b1)))
            · obtain ⟨⟨nk', dy', z1⟩, z2, z3, z4, z5⟩ := x1
              exact ⟨⟨nk', dy', TRel_q (S := fun o _ => o == v + 8) (qt_sI qt_rf (by simp)) (fun j y hj _ _ => by simp only [beq_eq_false_iff_ne]; omega) z1⟩, LR_q (S := fun o _ => o == v + 8) (qt_sI qt_rf (by simp)) (fun i => by simp only [beq_eq_false_iff_ne]; omega) z2, qt_sI z3 (by simp [SLr]), GB_tr z4 (GB_e (fun y => by rw [sI_n (by omega)])), z5⟩
            · rw [sI_n (by omega), x7 x (by omega), m5 x hx]
          · have b1 : (exA np no f Sm (s + 1) s1).1 (324 + 9 * s + 1) = nI N := (x1.2.2.2.2 _ (by omega) (by omega)).trans ((cS 1 (by omega)).symm.trans eN')
            exact OVER _ υ m7.symm x1 x2 (m6 (MLp_s hs30 (by omega) N2 hm a1 a8 m38 x3 (MLp_0 hs30 N2 b1)))
        | succ m ih =>
          intro Sm τm km nm hm c m38 m40 m1 m2 m3 m4 m5 m6 m7
          have a1 : Sm.1 (324 + 9 * s + 1) = nI N := (c.2.2.2.2 _ (by omega) (by omega)).trans ((cS 1 (by omega)).symm.trans eN')
          have a8 : Sm.1 (324 + 9 * s + 8) = nI s1 := (c.2.2.2.2 _ (by omega) (by omega)).trans g6
          rw [lpF, if_pos m38] at m7
          refine IH (s + 1) s1 (r + 1) r1 Sm τm km nm g7 (by omega) (by omega) c m38 m40 m2 (by omega) (fun υ k' n' x1 x2 x3 x4 x5 x6 x7 x8 => ?_) (fun υ x1 x2 x3 => ?_)
          · have qυ : qt (SLr t v) σ0 υ := x1.2.2.1
            have er : υ.1 (v + 8) r = nI (m + 1 + 1) := by rw [x7 r (by omega)]; exact m4
            rw [Li_turn ht hv (by omega) (show r1 < R by omega) hR (F12 υ qυ), Li_end ht hv (show r1 < 60 by omega) hr60 (by rw [F13 υ qυ]; exact g8) (by rw [F13 υ qυ]; exact g9), F13 υ qυ, ← F13 τ hq, ey, if_pos rfl, er, nI_pred, if_neg (show ¬ nI (m + 1) ≤ 0 from nI_ge (a := 0) (by omega) (by omega)), tl_s, bLi_run_68 ht hv, nI_1]
            refine ih (exA np no f Sm (s + 1) s1) _ (k' + 1) n' (by omega) ?_ x2 x3 (by omega) x5 (by omega) sI_e (fun x hx => ?_) (fun g => m6 (MLp_s hs30 (by omega) N2 hm a1 a8 m38 x8 g)) m7
            · obtain ⟨⟨nk', dy', z1⟩, z2, z3, z4, z5⟩ := x1
              exact ⟨⟨nk', dy', TRel_q (S := fun o _ => o == v + 8) (qt_sI qt_rf (by simp)) (fun j y hj _ _ => by simp only [beq_eq_false_iff_ne]; omega) z1⟩, LR_q (S := fun o _ => o == v + 8) (qt_sI qt_rf (by simp)) (fun i => by simp only [beq_eq_false_iff_ne]; omega) z2, qt_sI z3 (by simp [SLr]), GB_tr z4 (GB_e (fun y => by rw [sI_n (by omega)])), z5⟩
            · rw [sI_n (by omega), x7 x (by omega), m5 x hx]
          · have b1 : (exA np no f Sm (s + 1) s1).1 (324 + 9 * s + 1) = nI N := (x1.2.2.2.2 _ (by omega) (by omega)).trans ((cS 1 (by omega)).symm.trans eN')
            have m7' : doF np no (exA np no f) S s = exA np no f Sm (s + 1) s1 := by rw [← m7, lpF, if_neg x2]
            exact OVER _ υ m7' x1 x2 (m6 (MLp_s hs30 (by omega) N2 hm a1 a8 m38 x3 (MLp_o hs30 N2 b1 x2)))
      obtain ⟨N', eN2⟩ : ∃ N', N = N' + 1 := ⟨N - 1, by omega⟩
      refine LOOP N' (one S) _ (k + 1) (n + 1) (by omega) ?_ o38 o40 (Nat.le_refl _) (by omega) (by omega) (by rw [sI_e, eN2]) (fun x hx => by rw [sI_n (by omega)]; exact fr1 x) (fun g => ML (by rw [eN2] at g ⊢; exact g)) (by rw [dF, eN2])
      obtain ⟨⟨nk', dy', z1⟩, z2, z3, z4, z5⟩ := C1
      exact ⟨⟨nk', dy', TRel_q (S := fun o _ => o == v + 8) (qt_sI qt_rf (by simp)) (fun j y hj _ _ => by simp only [beq_eq_false_iff_ne]; omega) z1⟩, LR_q (S := fun o _ => o == v + 8) (qt_sI qt_rf (by simp)) (fun i => by simp only [beq_eq_false_iff_ne]; omega) z2, qt_sI z3 (by simp [SLr]), GB_tr z4 (GB_e (fun y => by rw [sI_n (by omega)])), z5⟩
    · -- stop
      have k8' : S.1 (324 + 9 * s) = nI 8 := k8
      have yy : y = 27 := (nI_eq (by omega) (by omega)).mp (ey.symm.trans ey')
      subst yy
      have dF : doF np no (exA np no f) S s = (S.1, upd (one S).2 38 1) := by
        unfold doF
        rw [if_neg n4, if_neg (by rw [k8']; decide), if_neg (by rw [k8']; decide), if_pos k8']
      rw [bLi_goOn_47_s27, bLi_goOn_92 ht hv, F12 τ1 q1, tl_s, bLi_run_68 ht hv, Li_exit ht hv hR (F12 τ1 q1)]
      refine OVER _ τ1 dF ⟨C1.1, LR_38 C1.2.1, C1.2.2.1, C1.2.2.2.1, C1.2.2.2.2⟩ ?_ (MOne_stop hs30 n4 k8')
      show ¬ upd (one S).2 38 1 38 = 0
      rw [upd_e]; exact i10
