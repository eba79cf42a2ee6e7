/-! handOvers: the programs -/
theorem smF_p {net : Nat → Int32} {y p np : Nat} (hp : p < np) (hy : y < 2 ^ p) : smF net (y + 2 ^ p) np = smF net y np + net p := by
  obtain ⟨j, ej⟩ : ∃ j, np = (p + 1) + j := ⟨np - (p + 1), by omega⟩
  have e2 : 2 ^ (p + 1) = 2 ^ p + 2 ^ p := by rw [Nat.pow_succ]; omega
  have b1 : Nat.testBit (y + 2 ^ p) p = true := by rw [Nat.add_comm, Nat.testBit_two_pow_add_eq, Nat.testBit_lt_two_pow hy]; rfl
  rw [ej, smF_z (show y + 2 ^ p < 2 ^ (p + 1) by omega), smF_z (show y < 2 ^ (p + 1) by omega), smF, smF, if_pos b1, Nat.testBit_lt_two_pow hy, if_neg (by decide), smF_c (x := y + 2 ^ p) (y := y) p (fun i hi => by rw [Nat.add_comm, Nat.testBit_two_pow_add_gt hi])]
theorem smF_rm {net : Nat → Int32} {y p : Nat} (hy : y < 256) (hp : p < 8) (hb : Nat.testBit y p = true) : ∀ n, n ≤ 8 → (n ≤ p → smF net (y - 2 ^ p) n = smF net y n) ∧ (p < n → smF net (y - 2 ^ p) n + net p = smF net y n)
  | 0, _ => ⟨fun _ => rfl, fun h => absurd h (by omega)⟩
  | n + 1, hn => by
    obtain ⟨h1, h2⟩ := smF_rm (net := net) hy hp hb n (by omega)
    have tb := tb_sub (i := n) hy hp (by omega) hb
    rw [smF, smF, tb]
    refine ⟨fun h => ?_, fun h => ?_⟩
    · have : n ≠ p := by omega
      simp only [this, decide_false, Bool.not_false, Bool.and_true, h1 (by omega)]
    · by_cases e : n = p
      · subst e
        simp only [hb, decide_true, Bool.not_true, Bool.and_false, Bool.false_eq_true, if_false, if_true, h1 (Nat.le_refl _)]
      · simp only [e, decide_false, Bool.not_false, Bool.and_true]
        rw [← h2 (by omega)]
        split
        · rw [Int32.add_assoc, Int32.add_comm (net n), ← Int32.add_assoc]
        · rfl
def S70 (o k : Nat) : Bool := o == 69 || o == 70
theorem S70_T {t j k : Nat} (ht : isT t) (hj : j < 25) : S70 (t + j) k = false := by
  have := isT_lt ht
  simp only [S70, Bool.or_eq_false_iff, beq_eq_false_iff_ne]; omega
def S69 (o k : Nat) : Bool := o == 69
theorem S69_70 {o k : Nat} (h : S69 o k = true) : S70 o k = true := by simp only [S69, S70, Bool.or_eq_true] at h ⊢; exact Or.inl h
theorem Ne_A_in {E : mEn} {d : Nat} {Q : mPost} {t p np : Nat} {a2 : Int32} {net : Nat → Int32} (ht : isT t) (hp : p < np) (hn : np ≤ 8) : ∀ (j y : Nat) (τ : mSt), y + j = 2 ^ p → (∀ x, x < 2 ^ p + y → τ.1 69 x = smF net x np) → (∀ υ a5, qt S69 τ υ → (∀ x, x < 2 ^ (p + 1) → υ.1 69 x = smF net x np) → WP E d mNe_fewestHandOvers 97 [.ref 68, .ref t, .int a2, .int (nI p), .int (net p), .int a5] [] υ Q) → WP E d mNe_fewestHandOvers 62 [.ref 68, .ref t, .int a2, .int (nI p), .int (net p), .int (nI y)] [] τ Q
  | 0, y, τ, e, h, hQ => by
    have e' : y = 2 ^ p := by omega
    have e2 : 2 ^ (p + 1) = 2 ^ p + 2 ^ p := by rw [Nat.pow_succ]; omega
    rw [bNe_fewestHandOvers_62 ht, shl9 (by omega), e', if_pos (Int32.le_refl _)]
    exact hQ τ _ qt_rf (fun x hx => h x (by omega))
  | j + 1, y, τ, e, h, hQ => by
    have hy : y < 2 ^ p := by omega
    have p8 : 2 ^ (p + 1) ≤ 2 ^ 8 := Nat.pow_le_pow_right (by omega) (by omega)
    have e2 : 2 ^ (p + 1) = 2 ^ p + 2 ^ p := by rw [Nat.pow_succ]; omega
    rw [bNe_fewestHandOvers_62 ht, shl9 (by omega), if_neg (nI_ge hy (by omega)), bNe_fewestHandOvers_70 ht, bs3 (by omega) hy, mOut_f (n := y) (by omega) (by omega), mOut_f (n := y + 2 ^ p) (by omega) (by omega), nI_clamp (n := y) (by omega), nI_clamp (n := y + 2 ^ p) (by omega), nI_1, if_neg (by decide), if_neg (by decide)]
    refine Ne_A_in ht hp hn j (y + 1) _ (by omega) (fun x hx => ?_) (fun υ a5 q => hQ υ a5 (qt_tr (qt_sI qt_rf rfl) q))
    by_cases ex : x = y + 2 ^ p
    · subst ex
      rw [sI_e, h y (by omega), smF_p hp hy]
    · rw [sI_n (Or.inr ex)]
      exact h x (by omega)
theorem Ne_A {E : mEn} {d : Nat} {Q : mPost} {σ : mSt} {t np no nl nk dy : Nat} {c : Nat → Int32} {w : Nat → Int64} {a2 : Int32} (ht : isT t) (hT : TRel σ t c w np no nl nk dy) : ∀ (j p : Nat) (τ : mSt) (u4 u5 : Value), p + j = np → qt S69 σ τ → (∀ x, x < 2 ^ p → τ.1 69 x = smF (fun p => nF c (nI p) nk) x np) → (∀ υ u4 u5, qt S69 σ υ → (∀ x, x < 2 ^ np → υ.1 69 x = smF (fun p => nF c (nI p) nk) x np) → WP E (d + 3) mNe_fewestHandOvers 103 [.ref 68, .ref t, .int a2, .int (nI np), u4, u5] [] υ Q) → WP E (d + 3) mNe_fewestHandOvers 41 [.ref 68, .ref t, .int a2, .int (nI p), u4, u5] [] τ Q
  | 0, p, τ, u4, u5, e, q, h, hQ => by
    have e' : p = np := by omega
    subst e'
    have hT' : TRel τ t c w p no nl nk dy := TRel_q (qt_mono q (fun o k => S69_70)) (fun j k hj _ _ => S70_T ht hj) hT
    rw [bNe_fewestHandOvers_41 ht, hT'.2.1.1, if_pos (Int32.le_refl _)]
    exact hQ τ _ _ q h
  | j + 1, p, τ, u4, u5, e, q, h, hQ => by
    have hT' : TRel τ t c w np no nl nk dy := TRel_q (qt_mono q (fun o k => S69_70)) (fun j k hj _ _ => S70_T ht hj) hT
    have b1 := hT.1.1
    rw [bNe_fewestHandOvers_41 ht, hT'.2.1.1, if_neg (nI_ge (by omega) (by omega)), bNe_fewestHandOvers_49 ht]
    refine Eq.mpr (Pr_surplus ht hT') ?_
    rw [tl_s, bNe_fewestHandOvers_57 ht]
    refine Ne_A_in (net := fun p => nF c (nI p) nk) ht (show p < np by omega) b1 (2 ^ p) 0 τ (by omega) (fun x hx => h x (by omega)) (fun υ a5 q2 h2 => ?_)
    rw [bNe_fewestHandOvers_97 ht, nI_1]
    exact Ne_A ht hT j (p + 1) υ _ _ (by omega) (qt_tr q q2) h2 hQ
def S7o (o k : Nat) : Bool := o == 70
theorem S7o_70 {o k : Nat} (h : S7o o k = true) : S70 o k = true := by simp only [S7o, S70, Bool.or_eq_true] at h ⊢; exact Or.inr h
theorem Ne_B_in {E : mEn} {d : Nat} {Q : mPost} {τ : mSt} {t np y : Nat} {a2 : Int32} {G : Nat → Nat} (ht : isT t) (h13 : τ.1 t 13 = nI np) (hn : np ≤ 8) (hy : y < 256) (hG : ∀ x, x < y → τ.1 70 x = nI (G x)) (hb : ∀ x, G x ≤ x) : ∀ (j p : Nat), p + j = np → WP E d mNe_fewestHandOvers 116 [.ref 68, .ref t, .int a2, .int (nI y), .int (nI (hoV G y p)), .int (nI p)] [] τ Q = WP E d mNe_fewestHandOvers 161 [.ref 68, .ref t, .int a2, .int (nI y), .int (nI (hoV G y np)), .int (nI np)] [] τ Q
  | 0, p, e => by
    have e' : p = np := by omega
    subst e'
    rw [bNe_fewestHandOvers_116 ht, h13, if_pos (Int32.le_refl _)]
  | j + 1, p, e => by
    have IH := Ne_B_in (E := E) (d := d) (Q := Q) (a2 := a2) ht h13 hn hy hG hb j (p + 1) (by omega)
    rw [bNe_fewestHandOvers_116 ht, h13, if_neg (nI_ge (by omega) (by omega)), bNe_fewestHandOvers_125 ht]
    by_cases z : Nat.testBit y p = true
    · have := tb_le z
      have := p2p p
      have v1 := hoV_le (T := G) (y := y) (B := y) p (fun p _ _ => Nat.le_trans (hb _) (Nat.sub_le _ _))
      have v2 := hb (y - 2 ^ p)
      rw [ite_nn ((bs1 (by omega) hy).mpr z), bNe_fewestHandOvers_135 ht, bsM (by omega) hy z, mOut_f (by omega) (by omega), nI_clamp (by omega), hG _ (by omega), if_neg (by decide), mx_i (by omega) (by omega), bNe_fewestHandOvers_155 ht, nI_1]
      rw [hoV, if_pos z] at IH
      exact IH
    · rw [if_pos (fun g => z ((bs1 (by omega) hy).mp g)), bNe_fewestHandOvers_155 ht, nI_1]
      rw [hoV, if_neg z] at IH
      exact IH
theorem Ne_B {E : mEn} {d : Nat} {Q : mPost} {σ : mSt} {t np : Nat} {s : Nat → Int32} (ht : isT t) (h13 : σ.1 t 13 = nI np) (hn : np ≤ 8) (hs : ∀ x, x < 2 ^ np → σ.1 69 x = s x) : ∀ (j y : Nat) (τ : mSt) (u4 u5 : Value), y + j = 2 ^ np → 1 ≤ y → qt S7o σ τ → (∀ x, x < y → τ.1 70 x = nI (hoG np s x)) → (∀ υ, qt S7o σ υ → Q (some (.int (nI np - nI (hoG np s (2 ^ np - 1))))) υ) → WP E d mNe_fewestHandOvers 105 [.ref 68, .ref t, .int (nI (2 ^ np)), .int (nI y), u4, u5] [] τ Q
  | 0, y, τ, u4, u5, e, h1, q, h, hQ => by
    have e' : y = 2 ^ np := by omega
    have tb := isT_lt ht
    have p8 : 2 ^ np ≤ 2 ^ 8 := Nat.pow_le_pow_right (by omega) hn
    have em : nI (2 ^ np) - 1 = nI (2 ^ np - 1) := by
      obtain ⟨r, hr⟩ : ∃ r, 2 ^ np = r + 1 := ⟨2 ^ np - 1, by omega⟩
      rw [hr, nI_pred]; rfl
    rw [bNe_fewestHandOvers_105 ht, e', if_pos (Int32.le_refl _), bNe_fewestHandOvers_191 ht, em, mOut_f (by omega) (by omega), nI_clamp (by omega), h _ (by omega), if_neg (by decide), (q t 13 (by simp only [S7o, beq_eq_false_iff_ne]; omega)).1, h13]
    exact hQ τ q
  | j + 1, y, τ, u4, u5, e, h1, q, h, hQ => by
    have tb := isT_lt ht
    have p8 : 2 ^ np ≤ 2 ^ 8 := Nat.pow_le_pow_right (by omega) hn
    have h13' : τ.1 t 13 = nI np := (q t 13 (by simp only [S7o, beq_eq_false_iff_ne]; omega)).1.trans h13
    have hb : ∀ x, hoG np s x ≤ x := fun x => hoG_le (x + 1) x (by omega)
    rw [bNe_fewestHandOvers_105 ht, if_neg (nI_ge (by omega) (by omega)), bNe_fewestHandOvers_110 ht]
    refine Eq.mpr (Ne_B_in (G := hoG np s) ht h13' hn (by omega) h hb np 0 (by omega)) ?_
    have GE := hoG_e (np := np) (s := s) (y := y) (by omega)
    rw [bNe_fewestHandOvers_161 ht, mOut_f (by omega) (by omega), nI_clamp (by omega), (q 69 y rfl).1, hs y (by omega), if_neg (by decide)]
    have NX : ∀ v, v = nI (hoG np s y) → WP E d mNe_fewestHandOvers 184 [.ref 68, .ref t, .int (nI (2 ^ np)), .int (nI y), .int (nI (hoV (hoG np s) y np)), .int (nI np)] [.int v, .int (nI y), .ref 70] τ Q := fun v ev => by
      rw [bNe_fewestHandOvers_184 ht, mOut_f (by omega) (by omega), nI_clamp (by omega), if_neg (by decide), nI_1]
      refine Ne_B ht h13 hn hs j (y + 1) _ _ _ (by omega) (by omega) (qt_sI q rfl) (fun x hx => ?_) hQ
      by_cases ex : x = y
      · subst ex; rw [sI_e, ev]
      · rw [sI_n (Or.inr ex)]; exact h x (by omega)
    by_cases z : s y = 0
    · rw [if_pos z] at GE
      rw [ite_nn z, bNe_fewestHandOvers_175 ht, nI_1]
      exact NX _ (by rw [GE])
    · rw [if_neg z] at GE
      rw [if_pos z, bNe_fewestHandOvers_182 ht]
      exact NX _ (by rw [GE]; rfl)
theorem Ne_fewest {E : mEn} {d : Nat} {Q : mPost} {σ : mSt} {t np no nl nk dy : Nat} {c : Nat → Int32} {w : Nat → Int64} {u2 u3 u4 u5 : Value} (ht : isT t) (hT : TRel σ t c w np no nl nk dy) (hQ : ∀ υ, qt S70 σ υ → Q (some (.int (nI np - nI (hoG np (fun y => smF (fun p => nF c (nI p) nk) y np) (2 ^ np - 1))))) υ) : WP E (d + 3) mNe_fewestHandOvers 0 [.ref 68, .ref t, u2, u3, u4, u5] [] σ Q := by
  have b1 := hT.1.1
  have tb := isT_lt ht
  have p1 : 1 ≤ 2 ^ np := Nat.one_le_two_pow
  rw [bNe_fewestHandOvers_0 ht, hT.2.1.1, if_neg (nI_pos (by omega)), bNe_fewestHandOvers_7 ht, hT.2.1.1, if_pos (nI_le b1 (by omega)), bNe_fewestHandOvers_18 ht, if_neg (by decide), if_neg (by decide), sI_n (by omega), sI_n (by omega), hT.2.1.1, shl9 b1]
  have q0 : qt S70 σ (sI (sI σ 69 0 0) 70 0 0) := qt_sI (qt_sI qt_rf rfl) rfl
  have hT0 := TRel_q q0 (fun j k hj _ _ => S70_T ht hj) hT
  refine Ne_A ht hT0 np 0 _ _ _ (by omega) qt_rf (fun x hx => ?_) (fun υ u4 u5 q h => ?_)
  · have : x = 0 := by omega
    subst this
    rw [smF_0]; rfl
  rw [bNe_fewestHandOvers_103 ht]
  have h13 : υ.1 t 13 = nI np := (q t 13 (by simp only [S69, beq_eq_false_iff_ne]; omega)).1.trans hT0.2.1.1
  refine Ne_B ht h13 b1 h (2 ^ np - 1) 1 υ _ _ (by omega) (Nat.le_refl _) qt_rf (fun x hx => ?_) (fun φ q2 => hQ φ (qt_tr q0 (qt_tr (qt_mono q (fun o k => S69_70)) (qt_mono q2 (fun o k => S7o_70)))))
  have : x = 0 := by omega
  subst this
  rw [hoG_0, (q 70 0 rfl).1]; rfl
def hoN (net : Nat → Int32) : Nat → Nat
  | 0 => 0
  | n + 1 => if net n = 0 then hoN net n else hoN net n + 1
theorem hoN_Z {net : Nat → Int32} : ∀ n, hoN net n + hoZ net n = n
  | 0 => rfl
  | n + 1 => by
    have := hoN_Z (net := net) n
    rw [hoN, hoZ]
    split <;> omega
theorem Mo_ho_1 {E : mEn} {d : Nat} {Q : mPost} {τ : mSt} {np nk : Nat} {c : Nat → Int32} {u4 u5 u6 : Value} (hc : τ.1 171 = c) (c1 : c 0 = nI np) (b1 : np ≤ 8) (c4 : c 3 = nI nk) (b4 : nk ≤ 40) : ∀ (j p : Nat) (s : Int32), p + j = np → s = sF (fun p => ¬ nF c (nI p) nk = 0) p → WP E (d + 3) mMo_handOvers 16 [.ref 166, .int s, .int (nI (hoN (fun p => nF c (nI p) nk) p)), .int (nI p), u4, u5, u6] [] τ Q = WP E (d + 3) mMo_handOvers 52 [.ref 166, .int (sF (fun p => ¬ nF c (nI p) nk = 0) np), .int (nI (hoN (fun p => nF c (nI p) nk) np)), .int (nI np), u4, u5, u6] [] τ Q
  | 0, p, s, e, hs => by
    have e' : p = np := by omega
    subst e'
    rw [bMo_handOvers_16, if_neg (by decide), hc, c1, if_pos (Int32.le_refl _), hs]
  | j + 1, p, s, e, hs => by
    have IH := fun s => Mo_ho_1 (E := E) (d := d) (Q := Q) (u4 := u4) (u5 := u5) (u6 := u6) hc c1 b1 c4 b4 j (p + 1) s (by omega)
    rw [bMo_handOvers_16, if_neg (by decide), hc, c1, if_neg (nI_ge (by omega) (by omega)), bMo_handOvers_26, Mo_netOf (nk := nk) (by rw [hc]; exact c4) b4, tl_s, bMo_handOvers_31, hc]
    by_cases z : nF c (nI p) nk = 0
    · rw [ite_nn z, bMo_handOvers_34, bMo_handOvers_46, nI_1]
      have := IH s (by rw [sF, if_neg (fun g => g z), hs])
      rw [hoN, if_pos z] at this
      exact this
    · rw [if_pos z, bMo_handOvers_37, bMo_handOvers_46, nI_1, nI_1]
      have := IH (s ||| (1 <<< (nI p &&& 31))) (by rw [sF, if_pos z, hs])
      rw [hoN, if_neg z] at this
      exact this
theorem sbo_iff {y o : Nat} (hy : y < 256) : y &&& o = y ↔ ∀ i, i < 8 → Nat.testBit y i = true → Nat.testBit o i = true := by
  constructor
  · intro h i _ hb
    have : Nat.testBit (y &&& o) i = Nat.testBit y i := by rw [h]
    rw [Nat.testBit_and, hb] at this
    simpa using this
  · intro h
    apply Nat.eq_of_testBit_eq
    intro i
    rw [Nat.testBit_and]
    by_cases hi : i < 8
    · cases hb : Nat.testBit y i with
      | false => rfl
      | true => rw [h i hi hb]; rfl
    · have : 2 ^ 8 ≤ 2 ^ i := Nat.pow_le_pow_right (by omega) (by omega)
      rw [Nat.testBit_lt_two_pow (show y < 2 ^ i by omega)]; rfl
def SHo (o k : Nat) : Bool := (o == 177 || o == 178) && k != 0
theorem SHo_SQ {o k : Nat} (h : SHo o k = true) : SQ o k = true := by
  simp only [SHo] at h
  simp only [SQ, h, Bool.or_true, Bool.true_or]
theorem Mo_ho_in {E : mEn} {d : Nat} {Q : mPost} {τ : mSt} {np nk y o : Nat} {a1 a2 : Int32} {c : Nat → Int32} {G : Nat → Nat} (hc : τ.1 171 = c) (c1 : c 0 = nI np) (b1 : np ≤ 8) (c4 : c 3 = nI nk) (b4 : nk ≤ 40) (hy : y < 256) (sb : ∀ i, i < 8 → Nat.testBit y i = true → Nat.testBit o i = true) (hG : ∀ x, x < y → x &&& o = x → τ.1 177 x = nI (G x) ∧ τ.1 178 x = smF (fun p => nF c (nI p) nk) x np) (hb : ∀ x, G x ≤ x) : ∀ (j p : Nat) (s : Int32), p + j = np → (((∀ i, i < p → Nat.testBit y i = false) ∧ s = 0) ∨ s = smF (fun p => nF c (nI p) nk) y np) →
    (∀ s, (((∀ i, i < np → Nat.testBit y i = false) ∧ s = 0) ∨ s = smF (fun p => nF c (nI p) nk) y np) → WP E (d + 3) mMo_handOvers 152 [.ref 166, .int a1, .int a2, .int (nI y), .int (nI (hoV G y np)), .int s, .int (nI np)] [] τ Q) → WP E (d + 3) mMo_handOvers 81 [.ref 166, .int a1, .int a2, .int (nI y), .int (nI (hoV G y p)), .int s, .int (nI p)] [] τ Q
  | 0, p, s, e, hs, hQ => by
    have e' : p = np := by omega
    subst e'
    rw [bMo_handOvers_81, if_neg (by decide), hc, c1, if_pos (Int32.le_refl _)]
    exact hQ s hs
  | j + 1, p, s, e, hs, hQ => by
    have IH := fun s hs => Mo_ho_in (E := E) (d := d) (Q := Q) (a1 := a1) (a2 := a2) hc c1 b1 c4 b4 hy sb hG hb j (p + 1) s (by omega) hs hQ
    rw [bMo_handOvers_81, if_neg (by decide), hc, c1, if_neg (nI_ge (by omega) (by omega)), bMo_handOvers_92, Mo_has, tl_s, bMo_handOvers_98]
    by_cases z : Nat.testBit y p = true
    · have := tb_le z
      have := p2p p
      have v1 := hoV_le (T := G) (y := y) (B := y) p (fun p _ _ => Nat.le_trans (hb _) (Nat.sub_le _ _))
      have v2 := hb (y - 2 ^ p)
      have g := hG (y - 2 ^ p) (by omega) ((sbo_iff (by omega)).mpr (fun i hi hbb => by
        rw [tb_sub hy (by omega) hi z] at hbb
        exact sb i hi (by simp only [Bool.and_eq_true] at hbb; exact hbb.1)))
      rw [b2i_t ((bs1 (by omega) hy).mpr z), if_pos i10, bMo_handOvers_104, bsM (by omega) hy z, mOut_f (by omega) (by omega), nI_clamp (by omega), g.1, g.2, if_neg (by decide), if_neg (by decide), Mo_netOf (nk := nk) (by rw [hc]; exact c4) b4, tl_s, bMo_handOvers_143, bMo_handOvers_146, nI_1, mx_i (by omega) (by omega), hc]
      have := IH _ (Or.inr ((smF_rm (net := fun p => nF c (nI p) nk) hy (show p < 8 by omega) z np b1).2 (by omega)))
      rw [hoV, if_pos z] at this
      exact this
    · have zf : Nat.testBit y p = false := by simpa using z
      rw [b2i_f (fun g => z ((bs1 (by omega) hy).mp g)), ite_nn rfl, bMo_handOvers_101, bMo_handOvers_146, nI_1]
      have := IH s (hs.elim (fun g => Or.inl ⟨fun i hi => if x : i = p then x ▸ zf else g.1 i (by omega), g.2⟩) Or.inr)
      rw [hoV, if_neg z] at this
      exact this
theorem Mo_ho_2 {E : mEn} {d : Nat} {Q : mPost} {σ : mSt} {np nk o : Nat} {a2 : Int32} {c : Nat → Int32} (hc : σ.1 171 = c) (c1 : c 0 = nI np) (b1 : np ≤ 8) (c4 : c 3 = nI nk) (b4 : nk ≤ 40) (ho : o < 2 ^ np) : ∀ (j y : Nat) (τ : mSt) (u4 u5 u6 : Value), y + j = 256 → 1 ≤ y → qt SHo σ τ → (∀ x, x < y → x &&& o = x → τ.1 177 x = nI (hoG np (fun y => smF (fun p => nF c (nI p) nk) y np) x) ∧ τ.1 178 x = smF (fun p => nF c (nI p) nk) x np) →
    (∀ υ u4 u5 u6, qt SHo σ υ → υ.1 177 o = nI (hoG np (fun y => smF (fun p => nF c (nI p) nk) y np) o) → WP E (d + 3) mMo_handOvers 185 [.ref 166, .int (nI o), .int a2, .int (nI 256), u4, u5, u6] [] υ Q) → WP E (d + 3) mMo_handOvers 54 [.ref 166, .int (nI o), .int a2, .int (nI y), u4, u5, u6] [] τ Q
  | 0, y, τ, u4, u5, u6, e, h1, q, h, hQ => by
    have e' : y = 256 := by omega
    subst e'
    rw [bMo_handOvers_54, if_pos (Int32.le_refl _)]
    exact hQ τ _ _ _ q (h o (pw8 b1 ho) (Nat.and_self o)).1
  | j + 1, y, τ, u4, u5, u6, e, h1, q, h, hQ => by
    have o8 := pw8 b1 ho
    have hc' : τ.1 171 = c := by rw [← hc]; exact funext fun k => (q 171 k rfl).1
    rw [bMo_handOvers_54, if_neg (nI_ge (by omega) (by omega)), bMo_handOvers_61]
    by_cases sb : y &&& o = y
    rotate_left
    · rw [if_neg (fun g => sb ((bsA (by omega) o8).mp g)), bMo_handOvers_69, bMo_handOvers_179, nI_1]
      exact Mo_ho_2 hc c1 b1 c4 b4 ho j (y + 1) τ _ _ _ (by omega) (by omega) q (fun x hx hb => h x (by
        by_cases ex : x = y
        · subst ex; exact absurd hb sb
        · omega) hb) hQ
    have sb' := (sbo_iff (show y < 256 by omega)).mp sb
    have yn : y < 2 ^ np := by
      have := Nat.and_le_right (n := y) (m := o)
      omega
    have hb : ∀ x, hoG np (fun y => smF (fun p => nF c (nI p) nk) y np) x ≤ x := fun x => hoG_le (x + 1) x (by omega)
    rw [if_pos ((bsA (by omega) o8).mpr sb), bMo_handOvers_72]
    refine Mo_ho_in hc' c1 b1 c4 b4 (show y < 256 by omega) sb' h hb np 0 0 (by omega) (Or.inl ⟨fun i hi => absurd hi (by omega), rfl⟩) (fun s hs => ?_)
    have es : s = smF (fun p => nF c (nI p) nk) y np := by
      rcases hs with ⟨g, -⟩ | g
      · have y0 : y ≠ 0 := by omega
        have := g (Nat.log2 y) ((Nat.log2_lt y0).mpr yn)
        rw [Nat.testBit_log2 y0] at this
        cases this
      · exact g
    have GE := hoG_e (np := np) (s := fun y => smF (fun p => nF c (nI p) nk) y np) (y := y) (by omega)
    have y0 : (y != 0) = true := by simp; omega
    rw [bMo_handOvers_152, mOut_f (by omega) (by omega), nI_clamp (by omega), if_neg (by decide)]
    have NX : ∀ v, nI (hoV (hoG np fun y => smF (fun p => nF c (nI p) nk) y np) y np) + v = nI (hoG np (fun y => smF (fun p => nF c (nI p) nk) y np) y) → WP E (d + 3) mMo_handOvers 177 [.ref 166, .int (nI o), .int a2, .int (nI y), .int (nI (hoV (hoG np fun y => smF (fun p => nF c (nI p) nk) y np) y np)), .int s, .int (nI np)] [.int v, .int (nI (hoV (hoG np fun y => smF (fun p => nF c (nI p) nk) y np) y np)), .int (nI y), .ref 177] (sI τ 178 y s) Q := fun v ev => by
      rw [bMo_handOvers_177, mOut_f (by omega) (by omega), nI_clamp (by omega), if_neg (by decide), bMo_handOvers_179, nI_1, ev]
      refine Mo_ho_2 hc c1 b1 c4 b4 ho j (y + 1) _ _ _ _ (by omega) (by omega) (qt_sI (qt_sI q (by simp only [SHo, y0]; rfl)) (by simp only [SHo, y0]; rfl)) (fun x hx hbb => ?_) hQ
      by_cases ex : x = y
      · subst ex
        rw [sI_e, sI_n (Or.inl (by omega)), sI_e]
        exact ⟨rfl, es⟩
      · rw [sI_n (Or.inr ex), sI_n (Or.inl (by omega)), sI_n (Or.inl (by omega)), sI_n (Or.inr ex)]
        exact h x (by omega) hbb
    by_cases z : s = 0
    · rw [if_pos (by rw [← es]; exact z)] at GE
      rw [ite_nn z, bMo_handOvers_172]
      exact NX 1 (by rw [GE, nI_1])
    · rw [if_neg (by rw [← es]; exact z)] at GE
      rw [if_pos z, bMo_handOvers_176]
      exact NX 0 (by rw [GE, Int32.add_zero]; rfl)
theorem P_handOvers {E : mEn} {d : Nat} {σ : mSt} {u1 u2 u3 u4 u5 u6 : Value} (hI : Inv σ) : pairI E (d + 4) mPb_handOvers mMo_handOvers [.ref 0] [.ref 166, u1, u2, u3, u4, u5, u6] σ := by
  obtain ⟨np, no, nl, nk, dy, hT⟩ := Inv_town hI
  obtain ⟨⟨b1, b2, b3, b4, b5⟩, ⟨t1, c1⟩, ⟨t2, c2⟩, ⟨t3, c3⟩, ⟨t4, c4⟩, ⟨t5, c5⟩, c6, gP, gO, gL, gB, gK, -⟩ := id hT
  have hq : ∀ τ : mSt, qt SQ σ τ → (sI (sI τ 166 1 0) 166 0 0).1 171 = σ.1 171 := fun τ q => funext fun k => (q 171 k rfl).1
  have mp := @mpq E σ np c1 b1
  have ml := @mlq E σ nl c3 b3
  have mk := @mkq E σ nk c4 b4
  obtain ⟨o, o8, eo, ho⟩ := sF_N (P := fun p => ¬ nF (σ.1 171) (nI p) nk = 0) np b1
  have FU := hoG_full (net := fun p => nF (σ.1 171) (nI p) nk) b1 o8 ho
  have NZ := hoN_Z (net := fun p => nF (σ.1 171) (nI p) nk) np
  have EQ : nI np - nI (hoG np (fun y => smF (fun p => nF (σ.1 171) (nI p) nk) y np) (2 ^ np - 1)) = nI (hoN (fun p => nF (σ.1 171) (nI p) nk) np) - nI (hoG np (fun y => smF (fun p => nF (σ.1 171) (nI p) nk) y np) o) := by
    rw [FU]
    generalize hoG np (fun y => smF (fun p => nF (σ.1 171) (nI p) nk) y np) o = g
    generalize hoN (fun p => nF (σ.1 171) (nI p) nk) np = a at NZ ⊢
    generalize hoZ (fun p => nF (σ.1 171) (nI p) nk) np = b at NZ ⊢
    rw [← NZ, ← nI_add, ← nI_add, Int32.sub_eq_add_neg, Int32.sub_eq_add_neg, Int32.neg_add, Int32.sub_eq_add_neg, Int32.add_assoc, Int32.add_comm (-nI g), ← Int32.add_assoc (nI b), Int32.add_right_neg, Int32.zero_add]
  have G8 := hoG_le (np := np) (s := fun y => smF (fun p => nF (σ.1 171) (nI p) nk) y np) (o + 1) o (by omega)
  have o88 := pw8 b1 o8
  refine pairI_q hI (nI np - nI (hoG np (fun y => smF (fun p => nF (σ.1 171) (nI p) nk) y np) (2 ^ np - 1))) 0 (fun Q k => ?_) (fun τ q Q k => ?_)
  · rw [bPb_handOvers_0]
    refine Ne_fewest T10 hT (fun υ q => ?_)
    rw [tl_s, bPb_handOvers_12, bPb_answer_0, tl_s, bPb_handOvers_15]
    refine k _ (qt_sI (qt_mono q (fun o k h => ?_)) rfl) rfl
    simp only [S70, Bool.or_eq_true, beq_iff_eq] at h
    rcases h with rfl | rfl <;> rfl
  · rw [EQ] at k
    rw [bMo_handOvers_0]
    refine Eq.mpr (Mo_ho_1 (τ := sI (sI τ 166 1 0) 166 0 0) (hq τ q) c1 b1 c4 b4 np 0 0 (by omega) rfl) ?_
    rw [bMo_handOvers_52, eo]
    have g0 := hI.2.2.2.2.1
    refine Mo_ho_2 (σ := sI (sI τ 166 1 0) 166 0 0) (hq τ q) c1 b1 c4 b4 o8 255 1 _ _ _ _ (by omega) (Nat.le_refl _) qt_rf (fun x hx _ => ?_) (fun υ u4 u5 u6 q2 h2 => ?_)
    · have : x = 0 := by omega
      subst this
      rw [hoG_0, smF_0]
      exact ⟨((q 177 0 rfl).1).trans g0.1, ((q 178 0 rfl).1).trans g0.2.1⟩
    have q' : qt SQ τ υ := qt_tr (τ := sI (sI τ 166 1 0) 166 0 0) (by repeat' (first | exact qt_rf | assumption | refine qt_sI ?_ rfl | refine qt_sL ?_ rfl)) (qt_mono q2 (fun o k => SHo_SQ))
    rw [bMo_handOvers_185]
    by_cases z : o = 0
    · subst z
      have n0 : hoN (fun p => nF (σ.1 171) (nI p) nk) np = 0 := by
        have : ∀ n, n ≤ np → hoN (fun p => nF (σ.1 171) (nI p) nk) n = 0 := by
          intro n
          induction n with
          | zero => intro _; rfl
          | succ n ih =>
            intro h
            have z0 : nF (σ.1 171) (nI n) nk = 0 := Classical.byContradiction (fun g => by
              have := (ho n (by omega)).mpr g
              rw [Nat.zero_testBit] at this
              cases this)
            rw [hoN, if_pos z0]
            exact ih (by omega)
        exact this np (Nat.le_refl _)
      rw [ite_nn nI_lit0, bMo_handOvers_189, bMo_handOvers_201]
      rw [n0, hoG_0] at k
      exact k _ q' (q2 166 0 rfl).1 (q2 0 10 rfl).1
    · rw [if_pos (nI_ne0 (by omega) (by omega)), bMo_handOvers_193, mOut_f (by omega) (by omega), nI_clamp (by omega), h2, if_neg (by decide), bMo_handOvers_201]
      exact k _ q' (q2 166 0 rfl).1 (q2 0 10 rfl).1
