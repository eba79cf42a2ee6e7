theorem insR_in {key : Nat → Int32} {p : Nat} : ∀ (r : List Nat) (x : Nat), x = p ∨ x ∈ r → x ∈ insR key p r
  | [], x, h => by
    rcases h with h | h
    · rw [h]; exact List.mem_cons_self
    · cases h
  | y :: r, x, h => by
    rw [insR]
    split
    · rcases h with h | h
      · rw [h]; exact List.mem_cons_self
      · exact List.mem_cons_of_mem _ h
    · rcases h with h | h
      · exact List.mem_cons_of_mem _ (insR_in r x (Or.inl h))
      · rcases List.mem_cons.mp h with h | h
        · rw [h]; exact List.mem_cons_self
        · exact List.mem_cons_of_mem _ (insR_in r x (Or.inr h))
theorem RF_in {key held : Nat → Int32} : ∀ (n x : Nat), x < n → 0 < held x → x ∈ RF key held n
  | 0, x, h, _ => absurd h (by omega)
  | n + 1, x, h, hx => by
    rw [RF]
    split
    · by_cases e : x = n
      · exact insR_in _ _ (Or.inl e)
      · exact insR_in _ _ (Or.inr (RF_in n x (by omega) hx))
    · rename_i g
      by_cases e : x = n
      · rw [e] at hx; exact absurd hx g
      · exact RF_in n x (by omega) hx
/-- somebody but the baker holds some -/
def hlB (c : Nat → Int32) (l np nk : Nat) : Bool := (List.range np).any (fun p => decide (¬ nI p = c (34 + l)) && decide (0 < hF c l p nk))
theorem hlB_iff {c : Nat → Int32} {l np nk : Nat} : hlB c l np nk = true ↔ ∃ p, p < np ∧ ¬ nI p = c (34 + l) ∧ 0 < hF c l p nk := by
  simp only [hlB, List.any_eq_true, List.mem_range, Bool.and_eq_true, decide_eq_true_eq]
def ohL (a : Int32) (L : List Nat) : Bool := L.any (fun x => decide (¬ nI x = a))
theorem ohL_iff {a : Int32} {L : List Nat} : ohL a L = true ↔ ∃ x, x ∈ L ∧ ¬ nI x = a := by
  simp only [ohL, List.any_eq_true, decide_eq_true_eq]
def bkN (c : Nat → Int32) (l : Nat) : Nat := (c (34 + l)).toNatClampNeg
theorem Sh_others_loop {E : mEn} {d : Nat} {Q : mPost} {h : Nat} {a : Int32} (hh : isH h) {w : Nat} (hw : w ≤ 8) {τ : mSt} (h6 : τ.1 h 6 = nI w) : ∀ (L : List Nat) (k : Nat), k + L.length = w → qs (τ.1 (h + 3)) k L → WP E d mSh_othersHold 2 [.ref h, .int a, .int (nI k)] [] τ Q = Q (some (.int (b2i (ohL a L = true)))) τ
  | [], k, hk, hq => by
    have e' : k = w := by simpa using hk
    rw [bSh_othersHold_2 hh, h6, if_pos (nI_le (by omega) (by omega)), bSh_othersHold_28 hh, b2i_f (by rw [ohL_iff]; rintro ⟨x, hx, -⟩; cases hx)]
  | x :: L, k, hk, hq => by
    have e' : k + L.length + 1 = w := by simpa [Nat.add_assoc] using hk
    rw [bSh_othersHold_2 hh, h6, if_neg (nI_ge (by omega) (by omega)), bSh_othersHold_10 hh, mOut_f (by omega) (by omega), nI_clamp (by omega), qs_h hq, if_neg (by decide)]
    by_cases z : nI x = a
    · rw [if_pos z, bSh_othersHold_22 hh, nI_1, Sh_others_loop hh hw h6 L (k + 1) (by omega) (qs_t hq)]
      congr 3
      refine b2i_congr ?_
      rw [ohL_iff, ohL_iff]
      refine ⟨fun ⟨y, hy, g⟩ => ⟨y, List.mem_cons_of_mem _ hy, g⟩, fun ⟨y, hy, g⟩ => ⟨y, ?_, g⟩⟩
      rcases List.mem_cons.mp hy with hy | hy
      · rw [hy] at g; exact absurd z g
      · exact hy
    · rw [if_neg z, bSh_othersHold_20 hh, b2i_t (ohL_iff.mpr ⟨x, List.mem_cons_self, z⟩)]
theorem Sh_othersHold {E : mEn} {d : Nat} {Q : mPost} {h l np nk : Nat} {c : Nat → Int32} (hh : isH h) (hnp : np ≤ 8) {τ : mSt} {u : Value} (hL : LN τ h (LF c l np nk)) : WP E d mSh_othersHold 0 [.ref h, .int (c (34 + l)), u] [] τ Q = Q (some (.int (b2i (hlB c l np nk = true)))) τ := by
  have len := LF_len (c := c) (l := l) (np := np) (nk := nk)
  rw [bSh_othersHold_0 hh]
  refine (Sh_others_loop hh (w := (LF c l np nk).length) (by omega) hL.1 (LF c l np nk).reverse 0 (by simp) (qs_r hL.2)).trans ?_
  congr 3
  refine b2i_congr ?_
  rw [ohL_iff, hlB_iff]
  refine ⟨fun ⟨x, hx, g⟩ => ?_, fun ⟨x, hx, g, g2⟩ => ⟨x, List.mem_reverse.mpr (RF_in np x hx g2), g⟩⟩
  have := LF_mem (List.mem_reverse.mp hx)
  exact ⟨x, this.1, g, this.2⟩
theorem Mo_isHeld_loop {E : mEn} {d : Nat} {Q : mPost} {l np nk : Nat} {τ : mSt} {c : Nat → Int32} (hl : l < 8) (hc : τ.1 171 = c) (c0 : c 0 = nI np) (hnp : np ≤ 8) (c3 : c 3 = nI nk) (hnk : nk ≤ 40) : ∀ (j p : Nat), p + j = np → (∀ x, x < p → nI x = c (34 + l) ∨ ¬ 0 < hF c l x nk) → WP E (d + 4) mMo_isHeld 2 [.ref 166, .int (nI l), .int (nI p)] [] τ Q = Q (some (.int (b2i (hlB c l np nk = true)))) τ
  | 0, p, e, h => by
    have e' : p = np := by omega
    subst e'
    rw [bMo_isHeld_2, if_neg (by decide), hc, c0, if_pos (Int32.le_refl _), bMo_isHeld_42, b2i_f]
    rw [hlB_iff]
    rintro ⟨x, h1, h2, h3⟩
    rcases h x h1 with g | g
    · exact h2 g
    · exact g h3
  | j + 1, p, e, h => by
    rw [bMo_isHeld_2, if_neg (by decide), hc, c0, if_neg (nI_ge (by omega) (by omega)), bMo_isHeld_12, nI_add, mOut_f (by omega) (by omega), nI_clamp (by omega), hc, if_neg (by decide)]
    by_cases z : nI p = c (34 + l)
    · rw [if_pos z, bMo_isHeld_36, nI_1]
      refine Mo_isHeld_loop hl hc c0 hnp c3 hnk j (p + 1) (by omega) (fun x hx => ?_)
      by_cases e2 : x = p
      · rw [e2]; exact Or.inl z
      · exact h x (by omega)
    · rw [if_neg z, bMo_isHeld_25, Mo_holdsOf hl (show p < 8 by omega) (by rw [hc]; exact c3) hnk, tl_s, bMo_isHeld_31, hc]
      by_cases y : 0 < hF c l p nk
      · rw [if_neg (Int32.not_le.mpr y), bMo_isHeld_34, b2i_t (hlB_iff.mpr ⟨p, by omega, z, y⟩)]
      · rw [if_pos (Int32.not_lt.mp y), bMo_isHeld_36, nI_1]
        refine Mo_isHeld_loop hl hc c0 hnp c3 hnk j (p + 1) (by omega) (fun x hx => ?_)
        by_cases e2 : x = p
        · rw [e2]; exact Or.inr y
        · exact h x (by omega)
theorem Mo_isHeld {E : mEn} {d : Nat} {Q : mPost} {l np nk : Nat} {τ : mSt} {c : Nat → Int32} {u : Value} (hl : l < 8) (hc : τ.1 171 = c) (c0 : c 0 = nI np) (hnp : np ≤ 8) (c3 : c 3 = nI nk) (hnk : nk ≤ 40) : WP E (d + 4) mMo_isHeld 0 [.ref 166, .int (nI l), u] [] τ Q = Q (some (.int (b2i (hlB c l np nk = true)))) τ := by
  rw [bMo_isHeld_0]
  exact Mo_isHeld_loop hl hc c0 hnp c3 hnk np 0 (by omega) (fun x hx => absurd hx (by omega))
theorem Mo_isOpen {E : mEn} {d : Nat} {σ : mSt} {Q : mPost} {l : Nat} (hl : l < 8) : WP E (d + 1) mMo_isOpen 0 [.ref 166, .int (nI l)] [] σ Q = Q (some (.int (b2i (¬ σ.1 171 (42 + l) < 0 ∧ σ.1 171 (74 + l) < 0)))) σ := by
  by_cases q : σ.1 171 (42 + l) < 0 <;> by_cases w : σ.1 171 (74 + l) < 0 <;> simp only [bMo_isOpen_0, bMo_isOpen_5, bMo_isOpen_8, bMo_isOpen_13, bMo_isOpen_16, bMo_isOpen_20, bMo_isOpen_21, Mo_isPaper hl, Mo_isBaked hl, tl_s, q, w, b2i_T, b2i_F, i10, not_true_eq_false, not_false_eq_true, and_self, and_true, true_and, and_false, false_and, or_true, true_or, or_false, false_or, or_self, if_true, if_false, ite_self, eq_self, Bool.false_eq_true, Bool.true_eq_false]
theorem sS_b {f : Nat → Int32} {B : Int} (hB : 0 ≤ B) (hB2 : B ≤ 100000) : ∀ n, n ≤ 60 → (∀ x, x < n → 0 ≤ (f x).toInt ∧ (f x).toInt ≤ B) → 0 ≤ (sS f n).toInt ∧ (sS f n).toInt ≤ B * n
  | 0, _, _ => ⟨by simp [sS], by simp [sS]⟩
  | n + 1, hn, h => by
    have IH := sS_b hB hB2 n (by omega) (fun x hx => h x (by omega))
    have g := h n (by omega)
    have : B * n ≤ 100000 * 60 := Int.mul_le_mul hB2 (by omega) (by omega) (by omega)
    have e : B * ((n + 1 : Nat) : Int) = B * n + B := by rw [Int.natCast_add, Int.mul_add]; simp
    rw [sS, ia_add (by omega) (by omega), e]
    omega
theorem uT_b {σ : mSt} {t l np no nl nk dy : Nat} {c : Nat → Int32} {w : Nat → Int64} {wet : Int32} (hT : TRel σ t c w np no nl nk dy) (hl : l < nl) (p : Nat) (hp : 0 < hF c l p nk) : 0 ≤ (uT c l np nk wet p).toInt ∧ (uT c l np nk wet p).toInt ≤ 4059 := by
  have g1 := gF_b (wet := wet) hT hl p
  have g2 := gF_le (wet := wet) hT hl hp
  have g3 := TRel_hb hT hl p
  unfold uT
  split
  · exact ⟨by decide, by decide⟩
  · rw [ia_sub (by omega) (by omega)]; omega
theorem dnF_b {σ : mSt} {t l np no nl nk dy : Nat} {c : Nat → Int32} {w : Nat → Int64} {wet : Int32} (hT : TRel σ t c w np no nl nk dy) (hl : l < nl) : 0 ≤ (dnF c l np nk wet).toInt ∧ (dnF c l np nk wet).toInt ≤ 32472 := by
  have h8 := hT.1.1
  have := sS_b (f := fun p => if 0 < hF c l p nk then uT c l np nk wet p else 0) (B := 4059) (by omega) (by omega) np (by omega) (fun x hx => by
    split
    · rename_i g; exact uT_b hT hl x g
    · exact ⟨by decide, by decide⟩)
  unfold dnF
  omega
theorem ow_b {x : Int32} (h : -3960 ≤ x.toInt) : 0 ≤ (ow x).toInt ∧ (ow x).toInt ≤ 3960 := by
  have e : (-x).toInt = -x.toInt := ia_neg (by omega)
  have z : (0 : Int32).toInt = 0 := rfl
  unfold ow
  split
  · rename_i g
    rw [Int32.lt_iff_toInt_lt, e, z] at g
    omega
  · omega
theorem dis_pos {a b : Int32} (ha : 0 ≤ a.toInt ∧ a.toInt ≤ 3960) (hb : 0 ≤ b.toInt ∧ b.toInt ≤ 32472) : a + b ≤ 0 ↔ ¬ 0 < b ∧ a ≤ 0 := by
  have z : (0 : Int32).toInt = 0 := rfl
  rw [Int32.le_iff_toInt_le, Int32.le_iff_toInt_le, Int32.lt_iff_toInt_lt, ia_add (by omega) (by omega), z]
  omega
/-- faces, from loaf l on -/
def fcF (c : Nat → Int32) (np nk : Nat) : Nat → Nat → Int32 → Int32 × Int32
  | 0, _, a => (a, 0)
  | j + 1, l, a => if ¬ (¬ c (42 + l) < 0 ∧ c (74 + l) < 0) ∨ ¬ hlB c l np nk = true then fcF c np nk j (l + 1) a else if ¬ (¬ 0 < dnF c l np nk 0 ∧ ow (hF c l (bkN c l) nk) ≤ 0) then (-1, nI 9) else fcF c np nk j (l + 1) (a + c (66 + l))
theorem Pb_faces_loop {E : mEn} {d : Nat} {Q : mPost} {σ : mSt} {np no nl nk dy : Nat} {c : Nat → Int32} {w : Nat → Int64} (hT : TRel σ 10 c w np no nl nk dy) : ∀ (j l : Nat) (a : Int32) (τ : mSt) (u : Value), l + j = nl → qt (SHs 61) σ τ → (∀ υ, qt SQ σ υ → υ.1 0 10 = (fcF c np nk j l a).2 → Q (some (.int (fcF c np nk j l a).1)) υ) → WP E (d + 6) mPb_faces 4 [.ref 0, .int a, .int (nI l), u] [] τ Q
  | 0, l, a, τ, u, e, q, k => by
    have hT' : TRel τ 10 c w np no nl nk dy := TRel_q q (fun j k hj _ _ => SH_T H61 T10 hj) hT
    obtain ⟨⟨b1, b2, b3, b4, b5⟩, ⟨t1, c1⟩, ⟨t2, c2⟩, ⟨t3, c3⟩, -⟩ := id hT'
    rw [bPb_faces_4, t3, if_pos (nI_le (by omega) (by omega)), bPb_faces_114, bPb_answer_0, tl_s, bPb_faces_119]
    exact k _ (qt_sI (qt_mono q (fun o k => SH_SQ)) rfl) rfl
  | j + 1, l, a, τ, u, e, q, k => by
    have hT' : TRel τ 10 c w np no nl nk dy := TRel_q q (fun j k hj _ _ => SH_T H61 T10 hj) hT
    obtain ⟨⟨b1, b2, b3, b4, b5⟩, ⟨t1, c1⟩, ⟨t2, c2⟩, ⟨t3, c3⟩, ⟨t4, c4⟩, ⟨t5, c5⟩, c6, gP, gO, gL, gB, gK, -⟩ := id hT'
    have hl : l < nl := by omega
    have e1 : τ.1 (10 + 20) l = c (42 + l) := (gL l hl).2.1.1
    rw [fcF] at k
    rw [bPb_faces_4, t3, if_neg (nI_ge (by omega) (by omega)), bPb_faces_15, Tw_isPaper T10 t3 b3 hl, tl_s, bPb_faces_23, e1]
    by_cases h1 : c (42 + l) < 0
    · rw [if_pos (Or.inl (fun g => g.1 h1))] at k
      rw [b2i_t h1, if_pos i10, bPb_faces_108, nI_1]
      exact Pb_faces_loop hT j (l + 1) a τ _ (by omega) q k
    rw [b2i_f h1, ite_nn rfl, bPb_faces_26, Tw_isBaked T10 t3 b3 hl (gL l hl), tl_s, bPb_faces_34]
    by_cases h2 : c (74 + l) < 0
    rotate_left
    · rw [if_pos (Or.inl (fun g => h2 g.2))] at k
      rw [b2i_t h2, if_neg i10, bPb_faces_37, bPb_faces_108, nI_1]
      exact Pb_faces_loop hT j (l + 1) a τ _ (by omega) q k
    rw [b2i_f (not_not_intro h2), if_pos rfl, bPb_faces_40]
    refine Sh_settle H61 T10 hT' hl (fun υ q2 g => ?_)
    have q' : qt (SHs 61) σ υ := qt_tr q q2
    have hT2 : TRel υ 10 c w np no nl nk dy := TRel_q q' (fun j k hj _ _ => SH_T H61 T10 hj) hT
    have gL2 := hT2.2.2.2.2.2.2.2.2.2.1 l hl
    obtain ⟨bk, hbk, ebk⟩ := gL2.1.2
    have eb : υ.1 29 l = c (34 + l) := gL2.1.1
    rw [tl_n, bPb_faces_53, mOut_f (by omega) (by omega), nI_clamp (by omega), eb, if_neg (by decide), Sh_othersHold H61 b1 g.1.2.1, tl_s, bPb_faces_71]
    by_cases h3 : hlB c l np nk = true
    rotate_left
    · rw [if_pos (Or.inr h3)] at k
      rw [b2i_f h3, ite_nn rfl, bPb_faces_74, bPb_faces_108, nI_1]
      exact Pb_faces_loop hT j (l + 1) a υ _ (by omega) q' k
    have ed : υ.1 66 bk = ow (hF c l bk nk) + dnF c l np nk 0 := by
      have := g.2 bk (by omega)
      rw [if_pos ebk] at this
      exact this
    have eq1 : (¬ 0 < dnF c l np nk 0 ∧ ow (hF c l (bkN c l) nk) ≤ 0) ↔ υ.1 66 bk ≤ 0 := by
      rw [ed, dis_pos (ow_b (TRel_hb hT hl bk).1) (dnF_b hT hl), show bkN c l = bk by unfold bkN; rw [ebk, nI_clamp (by omega)]]
    rw [if_neg (by rintro (y | y); exact y ⟨h1, h2⟩; exact y h3)] at k
    rw [b2i_t h3, if_pos i10, bPb_faces_77, ebk, mOut_f (by omega) (by omega), nI_clamp (by omega), if_neg (by decide)]
    by_cases h4 : υ.1 66 bk ≤ 0
    · rw [if_neg (fun y => y (eq1.mpr h4))] at k
      rw [if_pos h4, bPb_faces_96, mOut_f (by omega) (by omega), nI_clamp (by omega), if_neg (by decide), bPb_faces_108, nI_1, show υ.1 33 l = c (66 + l) from gL2.2.2.2.2.1.1]
      exact Pb_faces_loop hT j (l + 1) _ υ _ (by omega) q' k
    · rw [if_pos (fun y => h4 (eq1.mp y))] at k
      rw [if_neg h4, bPb_faces_89, bPb_refuse_0, tl_s, bPb_faces_95]
      exact k _ (qt_sI (qt_mono q' (fun o k => SH_SQ)) rfl) rfl
theorem Mo_faces_loop {E : mEn} {d : Nat} {Q : mPost} {σ σ0 : mSt} {np no nl nk dy : Nat} {c : Nat → Int32} {w : Nat → Int64} (hT : TRel σ0 10 c w np no nl nk dy) (c1 : c 0 = nI np) (c3 : c 2 = nI nl) (c4 : c 3 = nI nk) : ∀ (j l : Nat) (a : Int32) (τ : mSt), l + j = nl → qt SDl σ τ → τ.1 171 = c → (∀ υ, qt SDl σ υ → Q (some (.int (fcF c np nk j l a).1)) (if (fcF c np nk j l a).2 = 0 then υ else sI υ 166 0 (fcF c np nk j l a).2)) → WP E (d + 7) mMo_faces 14 [.ref 166, .int a, .int (nI l)] [] τ Q
  | 0, l, a, τ, e, q, hc, k => by
    obtain ⟨⟨b1, b2, b3, b4, b5⟩, -⟩ := id hT
    rw [bMo_faces_14, if_neg (by decide), hc, c3, if_pos (nI_le (by omega) (by omega)), bMo_faces_94]
    exact k τ q
  | j + 1, l, a, τ, e, q, hc, k => by
    obtain ⟨⟨b1, b2, b3, b4, b5⟩, -, -, -, -, -, -, -, -, gL, -⟩ := id hT
    have hl : l < nl := by omega
    have hl8 : l < 8 := by omega
    rw [fcF] at k
    rw [bMo_faces_14, if_neg (by decide), hc, c3, if_neg (nI_ge (by omega) (by omega)), bMo_faces_24, Mo_isOpen hl8, tl_s, bMo_faces_29, hc]
    by_cases h1 : ¬ c (42 + l) < 0 ∧ c (74 + l) < 0
    rotate_left
    · rw [if_pos (Or.inl h1)] at k
      rw [b2i_f h1, if_pos rfl, bMo_faces_88, nI_1]
      exact Mo_faces_loop hT c1 c3 c4 j (l + 1) a τ (by omega) q hc k
    rw [b2i_t h1, if_neg i10, bMo_faces_32, Mo_isHeld hl8 hc c1 b1 c4 b4, tl_s, bMo_faces_37]
    by_cases h3 : hlB c l np nk = true
    rotate_left
    · rw [if_pos (Or.inr h3)] at k
      rw [b2i_f h3, ite_nn rfl, bMo_faces_40, bMo_faces_88, nI_1]
      exact Mo_faces_loop hT c1 c3 c4 j (l + 1) a τ (by omega) q hc k
    rw [if_neg (by rintro (y | y); exact y h1; exact y h3)] at k
    obtain ⟨bk, hbk, ebk⟩ := (gL l hl).1.2
    have ebn : bkN c l = bk := by unfold bkN; rw [ebk, nI_clamp (by omega)]
    rw [b2i_t h3, if_pos i10, bMo_faces_43]
    refine Mo_unmet hl8 (by rw [hc]; exact c1) b1 (by rw [hc]; exact c4) b4 (fun υ q2 g2 => ?_)
    have hc2 : υ.1 171 = c := (funext fun k => (q2 171 k rfl).1).trans hc
    have q' : qt SDl σ υ := qt_tr q q2
    rw [tl_s, bMo_faces_49, hc]
    have X : ∀ υ, qt SDl σ υ → ¬ (¬ 0 < dnF c l np nk 0 ∧ ow (hF c l (bkN c l) nk) ≤ 0) → WP E (d + 7) mMo_faces 69 [.ref 166, .int a, .int (nI l)] [] υ Q := fun υ qυ y => by
      rw [if_pos y] at k
      rw [bMo_faces_69, bMo_refuse_0, tl_s, bMo_faces_75]
      exact k υ qυ
    by_cases h4 : 0 < dnF c l np nk 0
    · rw [if_pos h4]
      exact X υ q' (fun y => y.1 h4)
    rw [if_neg h4, bMo_faces_52, nI_add, mOut_f (by omega) (by omega), nI_clamp (by omega), hc2, ebk, if_neg (by decide), Mo_owesOf hl8 (show bk < 8 by omega) (by rw [hc2]; exact c4) b4, tl_s, bMo_faces_66, hc2]
    by_cases h5 : ow (hF c l bk nk) ≤ 0
    · rw [if_neg (fun y => y ⟨h4, by rw [ebn]; exact h5⟩)] at k
      rw [if_pos h5, bMo_faces_76, nI_add, mOut_f (by omega) (by omega), nI_clamp (by omega), hc2, if_neg (by decide), bMo_faces_88, nI_1]
      exact Mo_faces_loop hT c1 c3 c4 j (l + 1) _ υ (by omega) q' hc2 k
    · rw [if_neg h5]
      exact X υ q' (fun y => h5 (by rw [← ebn]; exact y.2))
theorem P_faces {E : mEn} {d : Nat} {σ : mSt} {u1 u2 u3 u4 u5 : Value} (hI : Inv σ) : pairI E (d + 7) mPb_faces mMo_faces [.ref 0, u1, u2, u3] [.ref 166, u4, u5] σ := by
  obtain ⟨np, no, nl, nk, dy, hT⟩ := Inv_town hI
  obtain ⟨⟨b1, b2, b3, b4, b5⟩, ⟨t1, c1⟩, ⟨t2, c2⟩, ⟨t3, c3⟩, ⟨t4, c4⟩, ⟨t5, c5⟩, c6, gP, gO, gL, gB, gK, -⟩ := id hT
  have hq : ∀ τ : mSt, qt SQ σ τ → (sI (sI τ 166 1 0) 166 0 0).1 171 = σ.1 171 := fun τ q => funext fun k => (q 171 k rfl).1
  have mp := @mpq E σ np c1 b1
  have ml := @mlq E σ nl c3 b3
  have mk := @mkq E σ nk c4 b4
  refine pairI_q hI (fcF (σ.1 171) np nk nl 0 0).1 (fcF (σ.1 171) np nk nl 0 0).2 (fun Q k => ?_) (fun τ q Q k => ?_)
  · rw [bPb_faces_0]
    exact Pb_faces_loop hT nl 0 0 σ _ (by omega) qt_rf k
  · rw [bMo_faces_0]
    refine Mo_faces_loop (σ := sI (sI τ 166 1 0) 166 0 0) hT c1 c3 c4 nl 0 0 _ (by omega) qt_rf (hq τ q) (fun υ q2 => ?_)
    have Q2 : qt SQ τ υ := qt_tr (τ := sI (sI τ 166 1 0) 166 0 0) (by repeat' (first | exact qt_rf | assumption | refine qt_sI ?_ rfl | refine qt_sL ?_ rfl)) (qt_mono q2 (fun o k => SDl_SQ))
    split
    · rename_i g
      exact k υ Q2 (((q2 166 0 rfl).1).trans g.symm) (q2 0 10 rfl).1
    · exact k _ (qt_sI Q2 rfl) rfl (q2 0 10 rfl).1
