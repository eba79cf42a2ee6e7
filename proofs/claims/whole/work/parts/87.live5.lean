/-! live: the class goes through its rows as the reference through its steps -/
theorem doF_38 {np no : Nat} {ex : lvS → Nat → Nat → lvS} {S : lvS} {s : Nat} (h : S.2 40 = nI 300) : doF np no ex S s = (S.1, upd (upd S.2 38 1) 45 1) := by unfold doF; rw [if_pos h]
theorem plF_38 {np no : Nat} {S : lvS} {w : Nat} : (plF np no S w).2 38 = S.2 38 ∧ (plF np no S w).2 40 = S.2 40 := by
  unfold plF
  dsimp only
  rw [upd_n (by omega), dsF_k (by omega) (by omega) (by omega) (by omega), upd_n (by omega), dsF_k (by omega) (by omega) (by omega) (by omega)]
  exact ⟨rfl, rfl⟩
theorem CX_s {σ0 τ : mSt} {v t np no nl : Nat} {w : Nat → Int64} {c0 : Nat → Int32} {S : lvS} {k' : Nat → Int32} {i : Nat} {x : Int32} (ht : isT t) (hv : isV v) (hi : 2 ≤ i) (h : CX σ0 v t np no nl w c0 S τ) (hL : LR v k' (sI τ v i x)) : CX σ0 v t np no nl w c0 (S.1, k') (sI τ v i x) := by
  have tb := isT_lt ht
  have vb := isV_bd hv
  obtain ⟨⟨nk, dy, h1⟩, -, h3, h4, h5⟩ := h
  exact ⟨⟨nk, dy, TRel_q (S := fun o _ => o == v) (qt_sI qt_rf (by simp)) (fun j y hj _ _ => by simp only [beq_eq_false_iff_ne]; omega) h1⟩, hL, qt_sI h3 (SLd_r (v_Ld hi)), GB_tr h4 (GB_e (fun y => by rw [sI_n (by omega)])), h5⟩
/-- the reference's step, where the class has seen it -/
theorem MOne_300 {E : mEn} {np no f : Nat} {S : lvS} {s : Nat} (h : S.2 40 = nI 300) : MOne E np no f S s := fun d σ Q hc hk hQ => by
  rw [doF_38 h] at hQ
  rw [bMo_doOne_0, hk 40 (by omega) (by omega), ite_nn h, bMo_doOne_10]
  exact hQ _ (qt_sI (qt_sI qt_rf (SMv_k (by omega) (by omega))) (SMv_k (by omega) (by omega))) rfl hc (MR_s (MR_s hk))
theorem Mo_one {E : mEn} {d : Nat} {Q : mPost} {σ : mSt} {S : lvS} {s : Nat} {u2 u3 u4 : Value} (hs : s < 30) (h : ¬ S.2 40 = nI 300) (hc : σ.1 171 = S.1) (hk : MR S.2 σ) : WP E d mMo_doOne 0 [.ref 166, .int (nI s), u2, u3, u4] [] σ Q = if nI 6 ≤ S.1 (324 + 9 * s) then WP E d mMo_doOne 78 [.ref 166, .int (nI s), .int (nI (324 + 9 * s)), .int (S.1 (324 + 9 * s)), u4] [] (sI σ 166 40 (S.2 40 + 1)) Q else WP E d mMo_doOne 53 [.ref 166, .int (nI s), .int (nI (324 + 9 * s)), .int (S.1 (324 + 9 * s)), u4] [] (sI σ 166 40 (S.2 40 + 1)) Q := by
  have e : (sI σ 166 40 (S.2 40 + 1)).1 171 = S.1 := hc
  rw [bMo_doOne_0, hk 40 (by omega) (by omega), if_pos h, bMo_doOne_21, hk 40 (by omega) (by omega), pk_mul, nI_add, mOut_f (by omega) (by omega), nI_clamp (by omega), e, if_neg (show ¬ false = true by decide)]
theorem MR_1 {S : lvS} {σ : mSt} (hk : MR S.2 σ) : MR (one S).2 (sI σ 166 40 (S.2 40 + 1)) := MR_s hk
theorem MOne_pl {E : mEn} {np no nl nk dy f t s : Nat} {S : lvS} {σ0 : mSt} {w : Nat → Int64} {F : Nat → Int32} (hs : s < 30) (h : ¬ S.2 40 = nI 300) (hT : TRel σ0 t S.1 w np no nl nk dy) (hp : stepP (fun j => S.1 (324 + 9 * s + j)) F np no nl) (hx : ∃ x, x < 6 ∧ S.1 (324 + 9 * s) = nI x) : MOne E np no f S s := fun d σ Q hc hk hQ => by
  obtain ⟨x, hx6, ex⟩ := id hx
  have n6 : ∀ y, 6 ≤ y → y < 2 ^ 31 → ¬ S.1 (324 + 9 * s) = nI y := fun y h1 h2 h3 => by
    have := (nI_eq (by omega) h2).mp (ex.symm.trans h3); omega
  unfold doF at hQ
  rw [if_neg h, if_neg (n6 6 (by omega) (by omega)), if_neg (n6 7 (by omega) (by omega)), if_neg (n6 8 (by omega) (by omega))] at hQ
  have k41 : (sI σ 166 40 (S.2 40 + 1)).1 166 41 = (one S).2 41 := MR_1 hk 41 (by omega) (by omega)
  rw [Mo_one hs h hc hk, if_neg (by rw [ex]; exact nI_ge hx6 (by omega)), bMo_doOne_53, k41]
  refine Mo_does (S := one S) (σ := sI σ 166 40 (S.2 40 + 1)) (d := d + 2 * f + 2) hT hc (MR_1 hk) hs hp hx (fun τ q1 g0 g1 g2 => ?_)
  have FIN : ∀ y : Int32, y = (if (dsF np no (one S) (324 + 9 * s)).2 = 0 then 1 else 0) → Q none (sI τ 166 41 ((one S).2 41 + y)) := fun y ey => by
    rw [ey]
    exact hQ _ (qt_sI (qt_tr (qt_sI qt_rf (SMv_k (by omega) (by omega))) q1) (SMv_k (by omega) (by omega))) g0 g1 (MR_s g2)
  rw [tl_s, bMo_doOne_63]
  by_cases z : (dsF np no (one S) (324 + 9 * s)).2 = 0
  · rw [if_pos z, bMo_doOne_70, bMo_doOne_71, bMo_doOne_176]
    exact FIN 1 (by rw [if_pos z])
  · rw [if_neg z, bMo_doOne_66, bMo_doOne_71, bMo_doOne_176]
    exact FIN 0 (by rw [if_neg z])
theorem MOne_stop {E : mEn} {np no f s : Nat} {S : lvS} (hs : s < 30) (h : ¬ S.2 40 = nI 300) (h8 : S.1 (324 + 9 * s) = nI 8) : MOne E np no f S s := fun d σ Q hc hk hQ => by
  unfold doF at hQ
  rw [if_neg h, if_neg (by rw [h8]; decide), if_neg (by rw [h8]; decide), if_pos h8] at hQ
  rw [Mo_one hs h hc hk, h8, if_pos (by decide), bMo_doOne_78, if_pos (by decide), bMo_doOne_111, if_pos (by decide), bMo_doOne_165, if_neg (by decide), bMo_doOne_171, bMo_doOne_176]
  exact hQ _ (qt_sI (qt_sI qt_rf (SMv_k (by omega) (by omega))) (SMv_k (by omega) (by omega))) rfl hc (MR_s (MR_1 hk))
theorem MOne_when {E : mEn} {np no nl nk dy f t s s1 : Nat} {S : lvS} {σ0 : mSt} {w : Nat → Int64} {F : Nat → Int32} (hs : s < 30) (h : ¬ S.2 40 = nI 300) (h6 : S.1 (324 + 9 * s) = nI 6) (h8 : S.1 (324 + 9 * s + 8) = nI s1) (hs1 : s1 ≤ 30) (hT : TRel σ0 t S.1 w np no nl nk dy) (hp : stepP (fun j => S.1 (324 + 9 * s + j)) F np no nl) (m : isB S.1 (324 + 9 * s) = true → MDo E np no f (one S) (s + 1) s1) : MOne E np no f S s := fun d σ Q hc hk hQ => by
  unfold doF at hQ
  rw [if_neg h, if_pos h6, show cN S.1 (324 + 9 * s + 8) = s1 by unfold cN; rw [h8, nI_clamp (by omega)]] at hQ
  have e : (sI σ 166 40 (S.2 40 + 1)).1 171 = S.1 := hc
  rw [Mo_one hs h hc hk, h6, if_pos (by decide), bMo_doOne_78, ite_nn rfl, bMo_doOne_84, Mo_isSo (c := S.1) (σ := sI σ 166 40 (S.2 40 + 1)) hT hc hs hp h6, tl_s, bMo_doOne_89]
  by_cases z : isB S.1 (324 + 9 * s) = true
  · rw [if_pos z] at hQ
    rw [b2i_t z, if_neg i10, bMo_doOne_92, nI_add, mOut_f (by omega) (by omega), nI_clamp (by omega), e, h8, if_neg (by decide), nI_1, bMo_doAll_0]
    refine m z d _ _ _ hc (MR_1 hk) (fun τ q1 g0 g1 g2 => ?_)
    rw [tl_n, bMo_doOne_108, bMo_doOne_176]
    exact hQ τ (qt_tr (qt_sI qt_rf (SMv_k (by omega) (by omega))) q1) g0 g1 g2
  · rw [if_neg z] at hQ
    rw [b2i_f z, if_pos rfl, bMo_doOne_111, if_pos (by decide), bMo_doOne_165, if_pos (by decide), bMo_doOne_176]
    exact hQ _ (qt_sI qt_rf (SMv_k (by omega) (by omega))) rfl hc (MR_1 hk)
/-- the reference's loop, n rounds still to be done -/
def MLp (E : mEn) (np no f : Nat) (s s1 N n : Nat) (S : lvS) : Prop := ∀ (d : Nat) (σ : mSt) (Q : mPost), σ.1 171 = S.1 → MR S.2 σ → (∀ τ a4, qt SMv σ τ → τ.1 166 0 = σ.1 166 0 → τ.1 171 = (lpF (exA np no f) (s + 1) s1 n S).1 → MR (lpF (exA np no f) (s + 1) s1 n S).2 τ → WP E (d + 2 * f + 11) mMo_doOne 162 [.ref 166, .int (nI s), .int (nI (324 + 9 * s)), .int (nI 7), .int a4] [] τ Q) → WP E (d + 2 * f + 11) mMo_doOne 120 [.ref 166, .int (nI s), .int (nI (324 + 9 * s)), .int (nI 7), .int (nI (N - n))] [] σ Q
theorem MLp_0 {E : mEn} {np no f s s1 N : Nat} {S : lvS} (hs : s < 30) (hN : N ≤ 99) (h1 : S.1 (324 + 9 * s + 1) = nI N) : MLp E np no f s s1 N 0 S := fun d σ Q hc hk hQ => by
  rw [bMo_doOne_120, nI_1, mOut_f (by omega) (by omega), nI_clamp (by omega), hc, h1, if_neg (by decide), Nat.sub_zero, if_pos (Int32.le_refl _)]
  exact hQ σ _ qt_rf rfl hc hk
theorem MLp_o {E : mEn} {np no f s s1 N n : Nat} {S : lvS} (hs : s < 30) (hN : N ≤ 99) (h1 : S.1 (324 + 9 * s + 1) = nI N) (ho : ¬ S.2 38 = 0) : MLp E np no f s s1 N n S := fun d σ Q hc hk hQ => by
  have e : lpF (exA np no f) (s + 1) s1 n S = S := by
    cases n with
    | zero => rfl
    | succ n => rw [lpF, if_neg ho]
  rw [e] at hQ
  have F := fun a4 => hQ σ a4 qt_rf rfl hc hk
  rw [bMo_doOne_120, nI_1, mOut_f (by omega) (by omega), nI_clamp (by omega), hc, h1, if_neg (by decide)]
  by_cases z : nI N ≤ nI (N - n)
  · rw [if_pos z]; exact F _
  · rw [if_neg z, bMo_doOne_133, hk 38 (by omega) (by omega), if_pos ho]; exact F _
theorem MLp_s {E : mEn} {np no f s s1 N n : Nat} {S : lvS} (hs : s < 30) (hs1 : s1 ≤ 30) (hN : N ≤ 99) (hn : n + 1 ≤ N) (h1 : S.1 (324 + 9 * s + 1) = nI N) (h8 : S.1 (324 + 9 * s + 8) = nI s1) (ho : S.2 38 = 0) (m : MDo E np no f S (s + 1) s1) (g : MLp E np no f s s1 N n (exA np no f S (s + 1) s1)) : MLp E np no f s s1 N (n + 1) S := fun d σ Q hc hk hQ => by
  rw [lpF, if_pos ho] at hQ
  rw [bMo_doOne_120, nI_1, mOut_f (by omega) (by omega), nI_clamp (by omega), hc, h1, if_neg (by decide), if_neg (nI_ge (by omega) (by omega)), bMo_doOne_133, hk 38 (by omega) (by omega), ite_nn ho, bMo_doOne_140, nI_add, mOut_f (by omega) (by omega), nI_clamp (by omega), hc, h8, if_neg (by decide), nI_1, bMo_doAll_0]
  refine m d σ _ _ hc hk (fun τ q1 g0 g1 g2 => ?_)
  rw [tl_n, bMo_doOne_156, nI_1, show N - (n + 1) + 1 = N - n by omega]
  exact g d τ Q g1 g2 (fun υ a4 q2 x0 x1 x2 => hQ υ a4 (qt_tr q1 q2) (x0.trans g0) x1 x2)
theorem MOne_loop {E : mEn} {np no f s s1 N : Nat} {S : lvS} (hs : s < 30) (hN : N ≤ 99) (h : ¬ S.2 40 = nI 300) (h7 : S.1 (324 + 9 * s) = nI 7) (h1 : S.1 (324 + 9 * s + 1) = nI N) (h8 : S.1 (324 + 9 * s + 8) = nI s1) (hs1 : s1 ≤ 30) (m : MLp E np no f s s1 N N (one S)) : MOne E np no f S s := fun d σ Q hc hk hQ => by
  unfold doF at hQ
  rw [if_neg h, if_neg (by rw [h7]; decide), if_pos h7, show cN S.1 (324 + 9 * s + 8) = s1 by unfold cN; rw [h8, nI_clamp (by omega)], show cN S.1 (324 + 9 * s + 1) = N by unfold cN; rw [h1, nI_clamp (by omega)]] at hQ
  have := m d (sI σ 166 40 (S.2 40 + 1)) Q hc (MR_1 hk) (fun τ a4 q1 g0 g1 g2 => by
    rw [bMo_doOne_162, bMo_doOne_176]
    exact hQ τ (qt_tr (qt_sI qt_rf (SMv_k (by omega) (by omega))) q1) g0 g1 g2)
  rw [Nat.sub_self] at this
  rw [Mo_one hs h hc hk, h7, if_pos (by decide), bMo_doOne_78, if_pos (by decide), bMo_doOne_111, ite_nn rfl, bMo_doOne_117]
  exact this
