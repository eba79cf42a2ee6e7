/-! saved -/
theorem bsAF : ∀ y o : Fin 256, ((nI y.1 &&& (nI o.1 ^^^ (-1))) = 0 ↔ y.1 &&& o.1 = y.1) := by decide +kernel
theorem bsA {y o : Nat} (hy : y < 256) (ho : o < 256) : (nI y &&& (nI o ^^^ (-1))) = 0 ↔ y &&& o = y := bsAF ⟨y, hy⟩ ⟨o, ho⟩
theorem shlF : ∀ n : Fin 9, (1 : Int32) <<< (nI n.1 &&& 31) = nI (2 ^ n.1) := by decide +kernel
theorem shl9 {n : Nat} (h : n ≤ 8) : (1 : Int32) <<< (nI n &&& 31) = nI (2 ^ n) := shlF ⟨n, by omega⟩
abbrev opP (c : Nat → Int32) (l : Nat) : Prop := ¬ c (42 + l) < 0 ∧ c (74 + l) < 0
abbrev sbP (c : Nat → Int32) (n y : Nat) : Prop := ∀ l, l < n → Nat.testBit y l = true → opP c l
def flF (c : Nat → Int32) (y : Nat) : Nat → Int32
  | 0 => 0
  | n + 1 => if Nat.testBit y n = true then flF c y n + c (66 + n) else flF c y n
def gtF (c : Nat → Int32) (p np nk y : Nat) : Nat → Int32
  | 0 => 0
  | n + 1 => if Nat.testBit y n = true then gtF c p np nk y n + (if opP c n then gF c n p np nk 0 else 0) else gtF c p np nk y n
theorem gtF_z {c : Nat → Int32} {p np nk y n : Nat} (hy : y < 2 ^ n) : ∀ j, gtF c p np nk y (n + j) = gtF c p np nk y n
  | 0 => rfl
  | j + 1 => by
    have : 2 ^ n ≤ 2 ^ (n + j) := Nat.pow_le_pow_right (by omega) (by omega)
    show gtF c p np nk y ((n + j) + 1) = _
    rw [gtF, Nat.testBit_lt_two_pow (show y < 2 ^ (n + j) by omega), if_neg (by decide), gtF_z hy j]
theorem gtF_0 {c : Nat → Int32} {p np nk : Nat} : ∀ n, gtF c p np nk 0 n = 0
  | 0 => rfl
  | n + 1 => by rw [gtF, Nat.zero_testBit, if_neg (by decide), gtF_0 n]
def svF (c : Nat → Int32) (p np nl nk : Nat) (wt : Int32) : Nat → Nat → Int32 × Int32 → Int32 × Int32
  | 0, _, s => s
  | j + 1, y, s => svF c p np nl nk wt j (y + 1) (if sbP c nl y ∧ wt ≤ gtF c p np nk y nl ∧ (s.1 = -1 ∨ flF c y nl < s.2) then (nI y, flF c y nl) else s)
def svI (c : Nat → Int32) (nl : Nat) (s : Int32 × Int32) : Prop := s.1 = -1 ∨ ∃ y, y < 256 ∧ s.1 = nI y ∧ s.2 = flF c y nl
theorem svI_s {c : Nat → Int32} {nl y : Nat} {s : Int32 × Int32} {P : Prop} [Decidable P] (h : svI c nl s) (hy : y < 256) : svI c nl (if P then (nI y, flF c y nl) else s) := by
  split
  · exact Or.inr ⟨y, hy, rfl, rfl⟩
  · exact h
theorem svF_I {c : Nat → Int32} {p np nl nk : Nat} {wt : Int32} : ∀ (j y : Nat) (s : Int32 × Int32), y + j ≤ 256 → svI c nl s → svI c nl (svF c p np nl nk wt j y s)
  | 0, y, s, _, h => h
  | j + 1, y, s, hy, h => by
    rw [svF]
    exact svF_I j (y + 1) _ (by omega) (svI_s h (by omega))
theorem sub_iff {c : Nat → Int32} {nl y o : Nat} (hn : nl ≤ 8) (hy : y < 2 ^ nl) (ho : ∀ l, l < nl → (Nat.testBit o l = true ↔ opP c l)) : y &&& o = y ↔ sbP c nl y := by
  constructor
  · intro h l hl hb
    have : Nat.testBit (y &&& o) l = Nat.testBit y l := by rw [h]
    rw [Nat.testBit_and, hb] at this
    exact (ho l hl).mp (by simpa using this)
  · intro h
    apply Nat.eq_of_testBit_eq
    intro i
    rw [Nat.testBit_and]
    by_cases hi : i < nl
    · cases hb : Nat.testBit y i with
      | false => rfl
      | true => rw [(ho i hi).mpr (h i hi hb)]; rfl
    · have : 2 ^ nl ≤ 2 ^ i := Nat.pow_le_pow_right (by omega) (by omega)
      rw [Nat.testBit_lt_two_pow (show y < 2 ^ i by omega)]; rfl
theorem Tw_flour_loop {E : mEn} {d : Nat} {Q : mPost} {σ : mSt} {t y np no nl nk dy : Nat} {c : Nat → Int32} {w : Nat → Int64} (ht : isT t) (hT : TRel σ t c w np no nl nk dy) (hy : y < 256) : ∀ (j l : Nat) (s : Int32), l + j = nl → s = flF c y l → WP E d mTw_flourOf 4 [.ref t, .int (nI y), .int s, .int (nI l)] [] σ Q = Q (some (.int (flF c y nl))) σ
  | 0, l, s, e, hs => by
    have e' : l = nl := by omega
    subst e'
    rw [bTw_flourOf_4 ht, hT.2.2.2.1.1, if_pos (Int32.le_refl _), bTw_flourOf_36 ht, hs]
  | j + 1, l, s, e, hs => by
    have b3 := hT.1.2.2.1
    have hl : l < nl := by omega
    have IH := fun s => Tw_flour_loop (E := E) (d := d) (Q := Q) ht hT hy j (l + 1) s (by omega)
    rw [bTw_flourOf_4 ht, hT.2.2.2.1.1, if_neg (nI_ge (by omega) (by omega)), bTw_flourOf_12 ht]
    by_cases z : Nat.testBit y l = true
    · rw [ite_nn ((bs1 (by omega) hy).mpr z), bTw_flourOf_21 ht, mOut_f (by omega) (by omega), nI_clamp (by omega), (hT.2.2.2.2.2.2.2.2.2.1 l hl).2.2.2.2.1.1, if_neg (by decide), bTw_flourOf_30 ht, nI_1]
      exact IH _ (by rw [flF, if_pos z, hs])
    · rw [if_pos (fun g => z ((bs1 (by omega) hy).mp g)), bTw_flourOf_30 ht, nI_1]
      exact IH _ (by rw [flF, if_neg z, hs])
theorem Tw_flourOf {E : mEn} {d : Nat} {Q : mPost} {σ : mSt} {t y np no nl nk dy : Nat} {c : Nat → Int32} {w : Nat → Int64} {u1 u2 : Value} (ht : isT t) (hT : TRel σ t c w np no nl nk dy) (hy : y < 256) : WP E d mTw_flourOf 0 [.ref t, .int (nI y), u1, u2] [] σ Q = Q (some (.int (flF c y nl))) σ := by
  rw [bTw_flourOf_0 ht]
  exact Tw_flour_loop ht hT hy nl 0 0 (by omega) rfl
theorem Sh_gth_loop {E : mEn} {d : Nat} {Q : mPost} {σ : mSt} {h p y np nl nk : Nat} {c : Nat → Int32} (hh : isH h) (hn : nl ≤ 8) (hg : ∀ x, x < nl → σ.1 (h + 6) x = gF c x p np nk 0) (hy : y < 2 ^ nl) (sb : sbP c nl y) : ∀ (j l : Nat) (s : Int32), l + j = 8 → s = gtF c p np nk y l → WP E d mSh_gathered 4 [.ref h, .int (nI y), .int s, .int (nI l)] [] σ Q = Q (some (.int (gtF c p np nk y nl))) σ
  | 0, l, s, e, hs => by
    have e' : l = 8 := by omega
    subst e'
    obtain ⟨k, ek⟩ : ∃ k, 8 = nl + k := ⟨8 - nl, by omega⟩
    rw [bSh_gathered_4 hh, if_pos (Int32.le_refl _), bSh_gathered_34 hh, hs, ek, gtF_z hy]
  | j + 1, l, s, e, hs => by
    have y8 := pw8 hn hy
    have IH := fun s => Sh_gth_loop (E := E) (d := d) (Q := Q) hh hn hg hy sb j (l + 1) s (by omega)
    rw [bSh_gathered_4 hh, if_neg (nI_ge (by omega) (by omega)), bSh_gathered_10 hh]
    by_cases z : Nat.testBit y l = true
    · have hl : l < nl := by
        refine Nat.lt_of_not_le (fun g => ?_)
        have : 2 ^ nl ≤ 2 ^ l := Nat.pow_le_pow_right (by omega) g
        rw [Nat.testBit_lt_two_pow (show y < 2 ^ l by omega)] at z
        cases z
      rw [ite_nn ((bs1 (by omega) y8).mpr z), bSh_gathered_19 hh, mOut_f (by omega) (by omega), nI_clamp (by omega), hg l hl, if_neg (by decide), bSh_gathered_28 hh, nI_1]
      exact IH _ (by rw [gtF, if_pos z, if_pos (sb l hl z), hs])
    · rw [if_pos (fun g => z ((bs1 (by omega) y8).mp g)), bSh_gathered_28 hh, nI_1]
      exact IH _ (by rw [gtF, if_neg z, hs])
theorem Sh_cs_open {E : mEn} {d : Nat} {Q : mPost} {σ : mSt} {h t np no nl nk dy : Nat} {c : Nat → Int32} {w : Nat → Int64} {a2 : Int32} {u5 u6 u7 : Value} (hh : isH h) (ht : isT t) (hT : TRel σ t c w np no nl nk dy) : ∀ (j l : Nat) (s : Int32), l + j = nl → s = sF (opP c) l → WP E (d + 2) mSh_cheapestSet 5 [.ref h, .ref t, .int a2, .int s, .int (nI l), u5, u6, u7] [] σ Q = WP E (d + 2) mSh_cheapestSet 45 [.ref h, .ref t, .int a2, .int (sF (opP c) nl), .int (nI nl), u5, u6, u7] [] σ Q
  | 0, l, s, e, hs => by
    have e' : l = nl := by omega
    subst e'
    rw [bSh_cheapestSet_5 hh ht, hT.2.2.2.1.1, if_pos (Int32.le_refl _), hs]
  | j + 1, l, s, e, hs => by
    obtain ⟨⟨b1, b2, b3, b4, b5⟩, ⟨t1, c1⟩, ⟨t2, c2⟩, ⟨t3, c3⟩, ⟨t4, c4⟩, ⟨t5, c5⟩, c6, gP, gO, gL, gB, gK, -⟩ := id hT
    have hl : l < nl := by omega
    have IH := fun s => Sh_cs_open (E := E) (d := d) (Q := Q) (a2 := a2) (u5 := u5) (u6 := u6) (u7 := u7) hh ht hT j (l + 1) s (by omega)
    rw [bSh_cheapestSet_5 hh ht, t3, if_neg (nI_ge (by omega) (by omega)), bSh_cheapestSet_14 hh ht, Tw_isPaper ht t3 b3 hl, tl_s, bSh_cheapestSet_20 hh ht, (gL l hl).2.1.1]
    by_cases z1 : c (42 + l) < 0
    · rw [b2i_t z1, if_pos i10, bSh_cheapestSet_39 hh ht, nI_1]
      exact IH _ (by rw [sF, if_neg (fun g => g.1 z1), hs])
    rw [b2i_f z1, ite_nn rfl, bSh_cheapestSet_23 hh ht, Tw_isBaked ht t3 b3 hl (gL l hl), tl_s, bSh_cheapestSet_29 hh ht]
    by_cases z2 : c (74 + l) < 0
    · rw [b2i_f (not_not_intro z2), ite_nn rfl, bSh_cheapestSet_32 hh ht, bSh_cheapestSet_39 hh ht, nI_1]
      exact IH _ (by rw [sF, if_pos ⟨z1, z2⟩, hs])
    · rw [b2i_t z2, if_pos i10, bSh_cheapestSet_39 hh ht, nI_1]
      exact IH _ (by rw [sF, if_neg (fun g => z2 g.2), hs])
theorem Sh_cs_loop {E : mEn} {d : Nat} {Q : mPost} {σ : mSt} {h t p np no nl nk dy o : Nat} {c : Nat → Int32} {w : Nat → Int64} {wt : Int32} (hh : isH h) (ht : isT t) (hT : TRel σ t c w np no nl nk dy) (hg : ∀ x, x < nl → σ.1 (h + 6) x = gF c x p np nk 0) (o8 : o < 2 ^ nl) (ho : ∀ l, l < nl → (Nat.testBit o l = true ↔ opP c l)) : ∀ (j y : Nat) (s : Int32 × Int32) (u7 : Value), y + j = 2 ^ nl → svI c nl s → (∀ u7, WP E (d + 2) mSh_cheapestSet 54 [.ref h, .ref t, .int wt, .int (nI o), .int (svF c p np nl nk wt j y s).1, .int (svF c p np nl nk wt j y s).2, .int (nI (2 ^ nl)), u7] [] σ Q) → WP E (d + 2) mSh_cheapestSet 54 [.ref h, .ref t, .int wt, .int (nI o), .int s.1, .int s.2, .int (nI y), u7] [] σ Q
  | 0, y, s, u7, e, hI, hQ => by
    have e' : y = 2 ^ nl := by omega
    rw [e']
    exact hQ u7
  | j + 1, y, s, u7, e, hI, hQ => by
    have b3 := hT.1.2.2.1
    have y8 := pw8 b3 (show y < 2 ^ nl by omega)
    have o88 := pw8 b3 o8
    have SB := sub_iff (y := y) b3 (by omega) ho
    have IH := fun s u7 => Sh_cs_loop (E := E) (d := d) (Q := Q) (p := p) (wt := wt) hh ht hT hg o8 ho j (y + 1) s u7 (by omega)
    rw [svF] at hQ
    rw [bSh_cheapestSet_54 hh ht, if_neg (nI_ge y8 (by omega)), bSh_cheapestSet_62 hh ht]
    by_cases z1 : sbP c nl y
    rotate_left
    · rw [if_neg (fun g => z1 g.1)] at hQ
      rw [if_pos (fun g => z1 (SB.mp ((bsA y8 o88).mp g))), bSh_cheapestSet_113 hh ht, nI_1]
      exact IH s _ hI hQ
    rw [ite_nn ((bsA y8 o88).mpr (SB.mpr z1)), bSh_cheapestSet_71 hh ht, bSh_gathered_0 hh, show (0 : Int32) = nI 0 from rfl, Sh_gth_loop hh b3 hg (show y < 2 ^ nl by omega) z1 8 0 (nI 0) (by omega) rfl, tl_s, bSh_cheapestSet_77 hh ht]
    by_cases z2 : wt ≤ gtF c p np nk y nl
    rotate_left
    · rw [if_neg (fun g => z2 g.2.1)] at hQ
      rw [if_neg z2, bSh_cheapestSet_81 hh ht, bSh_cheapestSet_113 hh ht, nI_1]
      exact IH s _ hI hQ
    rw [if_pos z2, bSh_cheapestSet_84 hh ht, Tw_flourOf ht hT y8, tl_s, bSh_cheapestSet_90 hh ht]
    have K := fun (g : s.1 = -1 ∨ flF c y nl < s.2) => by
      rw [if_pos ⟨z1, z2, g⟩] at hQ
      exact IH (nI y, flF c y nl) (.int (flF c y nl)) (Or.inr ⟨y, y8, rfl, rfl⟩) hQ
    by_cases z3 : s.1 = -1
    · rw [if_pos z3, bSh_cheapestSet_105 hh ht, bSh_cheapestSet_113 hh ht, nI_1]
      exact K (Or.inl z3)
    rw [if_neg z3, bSh_cheapestSet_98 hh ht]
    by_cases z4 : flF c y nl < s.2
    · rw [if_neg (Int32.not_le.mpr z4), bSh_cheapestSet_105 hh ht, bSh_cheapestSet_113 hh ht, nI_1]
      exact K (Or.inr z4)
    · rw [if_neg (fun g => g.2.2.elim z3 z4)] at hQ
      rw [if_pos (Int32.not_lt.mp z4), bSh_cheapestSet_113 hh ht, nI_1]
      exact IH s _ hI hQ
theorem Sh_cs_rest {E : mEn} {d : Nat} {Q : mPost} {σ : mSt} {h t nl o : Nat} {wt b f : Int32} (hh : isH h) (ht : isT t) (hn : nl ≤ 8) (o8 : o < 2 ^ nl) : ∀ (j y : Nat) (u7 : Value), y + j = 256 → 2 ^ nl ≤ y → WP E (d + 2) mSh_cheapestSet 54 [.ref h, .ref t, .int wt, .int (nI o), .int b, .int f, .int (nI y), u7] [] σ Q = Q (some (.int b)) σ
  | 0, y, u7, e, hy => by
    have e' : y = 256 := by omega
    subst e'
    rw [bSh_cheapestSet_54 hh ht, if_pos (Int32.le_refl _), bSh_cheapestSet_119 hh ht]
  | j + 1, y, u7, e, hy => by
    have o88 := pw8 hn o8
    have : ¬ y &&& o = y := fun g => by
      have := Nat.and_le_right (n := y) (m := o)
      omega
    rw [bSh_cheapestSet_54 hh ht, if_neg (nI_ge (by omega) (by omega)), bSh_cheapestSet_62 hh ht, if_pos (fun g => this ((bsA (by omega) o88).mp g)), bSh_cheapestSet_113 hh ht, nI_1]
    exact Sh_cs_rest hh ht hn o8 j (y + 1) u7 (by omega) (by omega)
theorem Sh_cheapest {E : mEn} {d : Nat} {Q : mPost} {σ : mSt} {h t p np no nl nk dy : Nat} {c : Nat → Int32} {w : Nat → Int64} {wt : Int32} {u3 u4 u5 u6 u7 : Value} (hh : isH h) (ht : isT t) (hT : TRel σ t c w np no nl nk dy) (hg : ∀ x, x < nl → σ.1 (h + 6) x = gF c x p np nk 0) (hQ : Q (some (.int (svF c p np nl nk wt (2 ^ nl - 1) 1 (-1, 0)).1)) σ) : WP E (d + 2) mSh_cheapestSet 0 [.ref h, .ref t, .int wt, u3, u4, u5, u6, u7] [] σ Q := by
  have b3 := hT.1.2.2.1
  obtain ⟨o, o8, eo, ho⟩ := sF_N (P := opP c) nl b3
  have p1 : 1 ≤ 2 ^ nl := Nat.one_le_two_pow
  have p8 : 2 ^ nl ≤ 2 ^ 8 := Nat.pow_le_pow_right (by omega) b3
  rw [bSh_cheapestSet_0 hh ht]
  refine Eq.mpr (Sh_cs_open hh ht hT nl 0 0 (by omega) rfl) ?_
  rw [bSh_cheapestSet_45 hh ht, eo]
  refine Sh_cs_loop (p := p) hh ht hT hg o8 ho (2 ^ nl - 1) 1 (-1, 0) _ (by omega) (Or.inl rfl) (fun u7 => ?_)
  rw [Sh_cs_rest hh ht b3 o8 (256 - 2 ^ nl) (2 ^ nl) u7 (by omega) (Nat.le_refl _)]
  exact hQ
theorem Mo_sv_in {E : mEn} {d : Nat} {Q : mPost} {σ σ0 : mSt} {p np no nl nk dy y : Nat} {c : Nat → Int32} {w : Nat → Int64} {a2 a3 a4 a5 : Int32} (hT : TRel σ0 10 c w np no nl nk dy) (hp : p < np) (hy : y < 256) : ∀ (j l : Nat) (τ : mSt), l + j = nl → qt SDl σ τ → τ.1 171 = c → (∀ υ a10, qt SDl σ υ → υ.1 171 = c → WP E (d + 7) mMo_saved 178 [.ref 166, .int (nI p), .int a2, .int a3, .int a4, .int a5, .int (nI y), .int (flF c y nl), .int (gtF c p np nk y nl), .int (b2i (sbP c nl y)), .int a10] [] υ Q) → WP E (d + 7) mMo_saved 86 [.ref 166, .int (nI p), .int a2, .int a3, .int a4, .int a5, .int (nI y), .int (flF c y l), .int (gtF c p np nk y l), .int (b2i (sbP c l y)), .int (nI l)] [] τ Q
  | 0, l, τ, e, q, hc, hQ => by
    have e' : l = nl := by omega
    subst e'
    rw [bMo_saved_86, if_neg (by decide), hc, hT.2.2.2.1.2, if_pos (Int32.le_refl _)]
    exact hQ τ _ q hc
  | j + 1, l, τ, e, q, hc, hQ => by
    obtain ⟨⟨b1, b2, b3, b4, b5⟩, ⟨t1, c1⟩, ⟨t2, c2⟩, ⟨t3, c3⟩, ⟨t4, c4⟩, ⟨t5, c5⟩, c6, gP, gO, gL, gB, gK, -⟩ := id hT
    have hl8 : l < 8 := by omega
    have IH := fun τ q hc => Mo_sv_in (E := E) (d := d) (Q := Q) (σ := σ) (a2 := a2) (a3 := a3) (a4 := a4) (a5 := a5) hT hp hy j (l + 1) τ (by omega) q hc hQ
    rw [bMo_saved_86, if_neg (by decide), hc, c3, if_neg (nI_ge (by omega) (by omega)), bMo_saved_97, Mo_has, tl_s, bMo_saved_104]
    by_cases z : Nat.testBit y l = true
    rotate_left
    · have e1 : b2i (sbP c l y) = b2i (sbP c (l + 1) y) := b2i_congr ⟨fun g i hi hb => if x : i = l then absurd (x ▸ hb) z else g i (by omega) hb, fun g i hi => g i (by omega)⟩
      rw [b2i_f (fun g => z ((bs1 hl8 hy).mp g)), ite_nn rfl, bMo_saved_107, bMo_saved_172, nI_1]
      have := IH τ q hc
      rw [flF, gtF, if_neg z, if_neg z, ← e1] at this
      exact this
    rw [b2i_t ((bs1 hl8 hy).mpr z), if_pos i10, bMo_saved_110]
    have NX : WP E (d + 7) mMo_saved 129 [.ref 166, .int (nI p), .int a2, .int a3, .int a4, .int a5, .int (nI y), .int (flF c y l), .int (gtF c p np nk y l), .int (b2i (sbP c l y)), .int (nI l)] [.int (b2i (sbP c (l + 1) y))] τ Q := by
      rw [bMo_saved_129, nI_add, mOut_f (by omega) (by omega), nI_clamp (by omega), hc, if_neg (by decide), Mo_isOpen hl8, tl_s, bMo_saved_154, hc]
      by_cases o : opP c l
      · rw [b2i_t o, if_neg i10, bMo_saved_157]
        refine Mo_getsOf hl8 hp (by rw [hc]; exact c1) b1 (by rw [hc]; exact c4) b4 (fun υ q2 => ?_)
        have hc2 : υ.1 171 = c := by rw [← hc]; exact funext fun k => (q2 171 k rfl).1
        rw [tl_s, bMo_saved_165, bMo_saved_169, bMo_saved_172, nI_1, hc]
        have := IH υ (qt_tr q q2) hc2
        rw [flF, gtF, if_pos z, if_pos z, if_pos o] at this
        exact this
      · rw [b2i_f o, if_pos rfl, bMo_saved_168, bMo_saved_169, bMo_saved_172, nI_1]
        have := IH τ q hc
        rw [flF, gtF, if_pos z, if_pos z, if_neg o] at this
        exact this
    by_cases s1 : sbP c l y
    · rw [b2i_t s1, if_neg i10, bMo_saved_115, Mo_isOpen hl8, tl_s, bMo_saved_121, hc]
      rw [b2i_t s1] at NX
      by_cases o : opP c l
      · rw [b2i_t (show sbP c (l + 1) y from fun i hi hb => if x : i = l then x ▸ o else s1 i (by omega) hb)] at NX
        rw [b2i_t o, if_neg i10, bMo_saved_124]
        exact NX
      · rw [b2i_f (show ¬ sbP c (l + 1) y from fun g => o (g l (by omega) z))] at NX
        rw [b2i_f o, if_pos rfl, bMo_saved_128]
        exact NX
    · rw [b2i_f s1, if_pos rfl, bMo_saved_128]
      rw [b2i_f s1, b2i_f (show ¬ sbP c (l + 1) y from fun g => s1 (fun i hi => g i (by omega)))] at NX
      exact NX
theorem Mo_sv_loop {E : mEn} {d : Nat} {Q : mPost} {σ σ0 : mSt} {p np no nl nk dy : Nat} {c : Nat → Int32} {w : Nat → Int64} {wt a3 : Int32} (hT : TRel σ0 10 c w np no nl nk dy) (hp : p < np) : ∀ (j y : Nat) (s : Int32 × Int32) (τ : mSt) (u7 u8 u9 u10 : Value), y + j = 2 ^ nl → svI c nl s → qt SDl σ τ → τ.1 171 = c → (∀ υ a6 u7 u8 u9 u10, qt SDl σ υ → WP E (d + 7) mMo_saved 218 [.ref 166, .int (nI p), .int wt, .int a3, .int (svF c p np nl nk wt j y s).1, .int (svF c p np nl nk wt j y s).2, .int a6, u7, u8, u9, u10] [] υ Q) → WP E (d + 7) mMo_saved 61 [.ref 166, .int (nI p), .int wt, .int a3, .int s.1, .int s.2, .int (nI y), u7, u8, u9, u10] [] τ Q
  | 0, y, s, τ, u7, u8, u9, u10, e, hI, q, hc, hQ => by
    have e' : y = 2 ^ nl := by omega
    rw [bMo_saved_61, if_neg (by decide), hc, hT.2.2.2.1.2, shl9 hT.1.2.2.1, e', if_pos (Int32.le_refl _)]
    exact hQ τ _ _ _ _ _ q
  | j + 1, y, s, τ, u7, u8, u9, u10, e, hI, q, hc, hQ => by
    have b3 := hT.1.2.2.1
    have y8 := pw8 b3 (show y < 2 ^ nl by omega)
    have p8 : 2 ^ nl ≤ 2 ^ 8 := Nat.pow_le_pow_right (by omega) b3
    rw [bMo_saved_61, if_neg (by decide), hc, hT.2.2.2.1.2, shl9 b3, if_neg (nI_ge (by omega) (by omega)), bMo_saved_74]
    refine Mo_sv_in hT hp y8 nl 0 τ (by omega) q hc (fun υ a10 q2 hc2 => ?_)
    have IH := fun s u7 u8 u9 u10 => Mo_sv_loop (E := E) (d := d) (Q := Q) (σ := σ) (wt := wt) (a3 := a3) hT hp j (y + 1) s υ u7 u8 u9 u10 (by omega)
    rw [svF] at hQ
    rw [bMo_saved_178]
    by_cases z1 : sbP c nl y
    rotate_left
    · rw [if_neg (fun g => z1 g.1)] at hQ
      rw [b2i_f z1, if_pos rfl, bMo_saved_212, nI_1]
      exact IH s _ _ _ _ hI q2 hc2 hQ
    rw [b2i_t z1, if_neg i10, bMo_saved_183]
    by_cases z2 : wt ≤ gtF c p np nk y nl
    rotate_left
    · rw [if_neg (fun g => z2 g.2.1)] at hQ
      rw [if_pos (Int32.not_le.mp z2), bMo_saved_212, nI_1]
      exact IH s _ _ _ _ hI q2 hc2 hQ
    rw [if_neg (Int32.not_lt.mpr z2), bMo_saved_189]
    have K := fun (g : s.1 = -1 ∨ flF c y nl < s.2) (u7 u8 u9 u10 : Value) => by
      rw [if_pos ⟨z1, z2, g⟩] at hQ
      exact IH (nI y, flF c y nl) u7 u8 u9 u10 (Or.inr ⟨y, y8, rfl, rfl⟩) q2 hc2 hQ
    by_cases z3 : s.1 = -1
    · rw [if_pos (by rw [z3]; decide), bMo_saved_204, bMo_saved_212, nI_1]
      exact K (Or.inl z3) _ _ _ _
    obtain ⟨x, hx, ex, -⟩ := hI.resolve_left z3
    rw [if_neg (by rw [ex]; exact nI_pos (by omega)), bMo_saved_194]
    by_cases z4 : flF c y nl < s.2
    · rw [if_pos z4, bMo_saved_204, bMo_saved_212, nI_1]
      exact K (Or.inr z4) _ _ _ _
    · rw [if_neg (fun g => g.2.2.elim z3 z4)] at hQ
      rw [if_neg z4, bMo_saved_201, bMo_saved_212, nI_1]
      exact IH s _ _ _ _ hI q2 hc2 hQ
theorem P_saved {E : mEn} {d : Nat} {σ : mSt} {a n w : Int32} {u1 u2 u3 u4 u5 u6 u7 u8 : Value} (hI : Inv σ) : pairI E (d + 8) mPb_saved mMo_saved [.ref 0, .int a, .int n, .int w, u1] [.ref 166, .int a, .int n, .int w, u2, u3, u4, u5, u6, u7, u8] σ := by
  obtain ⟨np, no, nl, nk, dy, hT⟩ := Inv_town hI
  obtain ⟨⟨b1, b2, b3, b4, b5⟩, ⟨t1, c1⟩, ⟨t2, c2⟩, ⟨t3, c3⟩, ⟨t4, c4⟩, ⟨t5, c5⟩, c6, gP, gO, gL, gB, gK, -⟩ := id hT
  have hq : ∀ τ : mSt, qt SQ σ τ → (sI (sI τ 166 1 0) 166 0 0).1 171 = σ.1 171 := fun τ q => funext fun k => (q 171 k rfl).1
  have mp := @mpq E σ np c1 b1
  have ml := @mlq E σ nl c3 b3
  have mk := @mkq E σ nk c4 b4
  by_cases ha : mOut a np = false
  rotate_left
  · refine pairI_q hI (-1) (nI 2) (fun Q k => ?_) (fun τ q Q k => ?_)
    · rw [bPb_saved_0, Tw_hasPerson T10 t1 b1, tl_s, bPb_saved_8, b2i_f ha, ite_nn rfl, bPb_saved_11, bPb_refuse_0, tl_s, bPb_saved_16]
      exact k _ (by repeat' (first | exact qt_rf | assumption | refine qt_sI ?_ rfl | refine qt_sL ?_ rfl)) rfl
    · rw [bMo_saved_0, mp τ q, tl_s, bMo_saved_15, b2i_f ha, ite_nn rfl, bMo_saved_18, bMo_refuse_0, tl_s, bMo_saved_23]
      exact k _ (by repeat' (first | exact qt_rf | assumption | refine qt_sI ?_ rfl | refine qt_sL ?_ rfl)) rfl rfl
  have ha' := ha
  obtain ⟨p, hp, rfl⟩ := mOut_n ha
  have X0 : ∀ Q : mPost, WP E (d + 8) mPb_saved 0 [.ref 0, .int (nI p), .int n, .int w, u1] [] σ Q = WP E (d + 8) mPb_saved 17 [.ref 0, .int (nI p), .int n, .int w, u1] [] σ Q := fun Q => by
    rw [bPb_saved_0, Tw_hasPerson T10 t1 b1, tl_s, bPb_saved_8, b2i_t ha', if_pos i10]
  have Y0 : ∀ (τ : mSt), qt SQ σ τ → ∀ Q : mPost, WP E (d + 8) mMo_saved 0 [.ref 166, .int (nI p), .int n, .int w, u2, u3, u4, u5, u6, u7, u8] [] τ Q = WP E (d + 8) mMo_saved 24 [.ref 166, .int (nI p), .int n, .int w, u2, u3, u4, u5, u6, u7, u8] [] (sI (sI τ 166 1 0) 166 0 0) Q := fun τ q Q => by
    rw [bMo_saved_0, mp τ q, tl_s, bMo_saved_15, b2i_t ha', if_pos i10]
  have R5 : ∀ Q : mPost, (∀ τ, qt SQ σ τ → τ.1 0 10 = nI 5 → Q (some (.int (-1))) τ) → ∀ n w : Int32, WP E (d + 8) mPb_saved 38 [.ref 0, .int (nI p), .int n, .int w, u1] [] σ Q := fun Q k n w => by
    rw [bPb_saved_38, bPb_refuse_0, tl_s, bPb_saved_43]
    exact k _ (by repeat' (first | exact qt_rf | assumption | refine qt_sI ?_ rfl | refine qt_sL ?_ rfl)) rfl
  have S5 : ∀ (τ : mSt) (Q : mPost), (∀ υ, qt SQ τ υ → υ.1 166 0 = nI 5 → υ.1 0 10 = τ.1 0 10 → Q (some (.int (-1))) υ) → ∀ n w : Int32, WP E (d + 8) mMo_saved 46 [.ref 166, .int (nI p), .int n, .int w, u2, u3, u4, u5, u6, u7, u8] [] (sI (sI τ 166 1 0) 166 0 0) Q := fun τ Q k n w => by
    rw [bMo_saved_46, bMo_refuse_0, tl_s, bMo_saved_51]
    exact k _ (by repeat' (first | exact qt_rf | assumption | refine qt_sI ?_ rfl | refine qt_sL ?_ rfl)) rfl rfl
  rcases sw_cs n 1 999 with ⟨n', n1, n2, rfl⟩ | hne
  rotate_left
  · refine pairI_q hI (-1) (nI 5) (fun Q k => ?_) (fun τ q Q k => ?_)
    · rw [X0, bPb_saved_17, bPb_saved_22, rngA (l' := 1) (h' := nI 999) (lo := 1) (hi := 999) rfl rfl (by omega) (by omega) hne]
      exact R5 Q k _ _
    · rw [Y0 τ q, bMo_saved_24, Mo_isIn, tl_s, bMo_saved_33, b2i_f (isIn_f (l6 := 1) (h6 := 999) (lo := 1) (hi := 999) rfl rfl (by omega) (by omega) hne), if_pos rfl]
      exact S5 τ Q k _ _
  rcases sw_cs w 0 1 with ⟨w', w1, w2, rfl⟩ | hne
  rotate_left
  · refine pairI_q hI (-1) (nI 5) (fun Q k => ?_) (fun τ q Q k => ?_)
    · rw [X0, bPb_saved_17, bPb_saved_22, rngB (l' := 1) (h' := nI 999) (lo := 1) (hi := 999) rfl rfl (by omega) n1 n2, bPb_saved_29, bPb_saved_33, rngC (l' := 0) (h' := 1) (lo := 0) (hi := 1) rfl rfl (by omega) (by omega) hne]
      exact R5 Q k _ _
    · rw [Y0 τ q, bMo_saved_24, Mo_isIn, tl_s, bMo_saved_33, b2i_t (isIn_t (l6 := 1) (h6 := 999) (lo := 1) (hi := 999) rfl rfl (by omega) n1 n2), if_neg i10, bMo_saved_36, Mo_isIn, tl_s, bMo_saved_43, b2i_f (isIn_f (l6 := 0) (h6 := 1) (lo := 0) (hi := 1) rfl rfl (by omega) (by omega) hne), ite_nn rfl]
      exact S5 τ Q k _ _
  have p8 : 2 ^ nl ≤ 2 ^ 8 := Nat.pow_le_pow_right (by omega) b3
  have p1 : 1 ≤ 2 ^ nl := Nat.one_le_two_pow
  have IV := svF_I (c := σ.1 171) (p := p) (np := np) (nl := nl) (nk := nk) (wt := nI n') (2 ^ nl - 1) 1 (-1, 0) (by omega) (Or.inl rfl)
  have XC : ∀ Q : mPost, (∀ υ, qt SQ σ υ → TRel υ 10 (σ.1 171) (σ.2 173) np no nl nk dy → WP E (d + 8) mPb_saved 68 [.ref 0, .int (nI p), .int (nI n'), .int (nI w'), u1] [.int (svF (σ.1 171) p np nl nk (nI n') (2 ^ nl - 1) 1 (-1, 0)).1] υ Q) → WP E (d + 8) mPb_saved 0 [.ref 0, .int (nI p), .int (nI n'), .int (nI w'), u1] [] σ Q := fun Q k => by
    rw [X0, bPb_saved_17, bPb_saved_22, rngB (l' := 1) (h' := nI 999) (lo := 1) (hi := 999) rfl rfl (by omega) n1 n2, bPb_saved_29, bPb_saved_33, rngD (l' := 0) (h' := 1) (lo := 0) (hi := 1) rfl rfl (by omega) w1 w2, bPb_saved_44]
    refine Sh_gather H61 T10 hT hp (fun υ q g1 g2 => ?_)
    have hT2 := TRel_q q (fun j k hj _ _ => SHx_T H61 T10 hj) hT
    rw [tl_n, bPb_saved_56]
    refine Sh_cheapest H61 T10 hT2 g1 ?_
    rw [tl_s]
    exact k υ (qt_mono q (fun o k => SHx_SQ)) hT2
  have YC : ∀ (τ : mSt), qt SQ σ τ → ∀ Q : mPost, (∀ υ a6 u7 u8 u9 u10, qt SDl (sI (sI τ 166 1 0) 166 0 0) υ → WP E (d + 8) mMo_saved 218 [.ref 166, .int (nI p), .int (nI n'), .int (nI w'), .int (svF (σ.1 171) p np nl nk (nI n') (2 ^ nl - 1) 1 (-1, 0)).1, .int (svF (σ.1 171) p np nl nk (nI n') (2 ^ nl - 1) 1 (-1, 0)).2, .int a6, u7, u8, u9, u10] [] υ Q) → WP E (d + 8) mMo_saved 0 [.ref 166, .int (nI p), .int (nI n'), .int (nI w'), u2, u3, u4, u5, u6, u7, u8] [] τ Q := fun τ q Q k => by
    rw [Y0 τ q, bMo_saved_24, Mo_isIn, tl_s, bMo_saved_33, b2i_t (isIn_t (l6 := 1) (h6 := 999) (lo := 1) (hi := 999) rfl rfl (by omega) n1 n2), if_neg i10, bMo_saved_36, Mo_isIn, tl_s, bMo_saved_43, b2i_t (isIn_t (l6 := 0) (h6 := 1) (lo := 0) (hi := 1) rfl rfl (by omega) w1 w2), if_pos i10, bMo_saved_52]
    have st0 : svF (σ.1 171) p np nl nk (nI n') (2 ^ nl) 0 (-1, 0) = svF (σ.1 171) p np nl nk (nI n') (2 ^ nl - 1) 1 (-1, 0) := by
      obtain ⟨r, hr⟩ : ∃ r, 2 ^ nl = r + 1 := ⟨2 ^ nl - 1, by omega⟩
      rw [hr, svF, if_neg (fun g => by
        have := g.2.1
        rw [gtF_0] at this
        exact nI_ge (a := 0) (by omega) (by omega) this)]
      rfl
    refine Mo_sv_loop (σ := sI (sI τ 166 1 0) 166 0 0) (s := (-1, 0)) hT hp (2 ^ nl) 0 _ _ _ _ _ (by omega) (Or.inl rfl) qt_rf (hq τ q) (fun υ a6 u7 u8 u9 u10 q2 => ?_)
    rw [st0]
    exact k υ a6 u7 u8 u9 u10 q2
  generalize svF (σ.1 171) p np nl nk (nI n') (2 ^ nl - 1) 1 (-1, 0) = s at IV XC YC
  have QS : ∀ τ υ : mSt, qt SDl (sI (sI τ 166 1 0) 166 0 0) υ → qt SQ τ υ := fun τ υ q2 => qt_tr (τ := sI (sI τ 166 1 0) 166 0 0) (by repeat' (first | exact qt_rf | assumption | refine qt_sI ?_ rfl | refine qt_sL ?_ rfl)) (qt_mono q2 (fun o k => SDl_SQ))
  by_cases z : s.1 = -1
  · refine pairI_q hI (-1) (nI 9) (fun Q k => ?_) (fun τ q Q k => ?_)
    · refine XC Q (fun υ q hT2 => ?_)
      rw [bPb_saved_68, ite_nn z, bPb_saved_76, bPb_refuse_0, tl_s, bPb_saved_82]
      exact k _ (qt_sI q rfl) rfl
    · refine YC τ q Q (fun υ a6 u7 u8 u9 u10 q2 => ?_)
      rw [bMo_saved_218, if_neg (by rw [z]; decide), bMo_saved_223, bMo_refuse_0, tl_s, bMo_saved_229, bMo_saved_243]
      exact k _ (qt_sI (QS τ υ q2) rfl) rfl (q2 0 10 rfl).1
  obtain ⟨y, hy, ey, ef⟩ := IV.resolve_left z
  match w', w2 with
  | 0, _ =>
    refine pairI_q hI s.2 0 (fun Q k => ?_) (fun τ q Q k => ?_)
    · refine XC Q (fun υ q hT2 => ?_)
      rw [bPb_saved_68, if_pos z, bPb_saved_83, if_pos (by decide), bPb_saved_94, ey, Tw_flourOf T10 hT2 hy, tl_s, bPb_saved_103, bPb_answer_0, tl_s, bPb_saved_106, ← ef]
      exact k _ (qt_sI q rfl) rfl
    · refine YC τ q Q (fun υ a6 u7 u8 u9 u10 q2 => ?_)
      rw [bMo_saved_218, if_pos (by rw [ey]; exact nI_pos' (by omega)), bMo_saved_232, ite_nn nI_lit0, bMo_saved_236, bMo_saved_243]
      exact k _ (QS τ υ q2) (q2 166 0 rfl).1 (q2 0 10 rfl).1
  | 1, _ =>
    refine pairI_q hI s.1 0 (fun Q k => ?_) (fun τ q Q k => ?_)
    · refine XC Q (fun υ q hT2 => ?_)
      rw [bPb_saved_68, if_pos z, bPb_saved_83, ite_nn nI_lit1, bPb_saved_89, bPb_saved_103, bPb_answer_0, tl_s, bPb_saved_106]
      exact k _ (qt_sI q rfl) rfl
    · refine YC τ q Q (fun υ a6 u7 u8 u9 u10 q2 => ?_)
      rw [bMo_saved_218, if_pos (by rw [ey]; exact nI_pos' (by omega)), bMo_saved_232, if_pos (by decide), bMo_saved_241, bMo_saved_243]
      exact k _ (QS τ υ q2) (q2 166 0 rfl).1 (q2 0 10 rfl).1
