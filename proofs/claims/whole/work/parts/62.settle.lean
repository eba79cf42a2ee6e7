/-! sums -/
def sS (f : Nat → Int32) : Nat → Int32
  | 0 => 0
  | p + 1 => sS f p + f p
def sLs (f : Nat → Int32) : List Nat → Int32
  | [] => 0
  | x :: L => f x + sLs f L
theorem i3c (a b c : Int32) : a + (b + c) = b + (a + c) := by rw [← Int32.add_assoc, Int32.add_comm a b, Int32.add_assoc]
theorem sLs_ins {f key : Nat → Int32} {p : Nat} : ∀ r : List Nat, sLs f (insR key p r) = f p + sLs f r
  | [] => rfl
  | x :: r => by
    rw [insR]
    split
    · rfl
    · rw [sLs, sLs, sLs_ins r, i3c]
theorem sLs_RF {f key held : Nat → Int32} : ∀ n, sLs f (RF key held n) = sS (fun p => if 0 < held p then f p else 0) n
  | 0 => rfl
  | n + 1 => by
    rw [RF, sS]
    split
    · rw [sLs_ins, sLs_RF n, Int32.add_comm]
    · rw [sLs_RF n, Int32.add_zero]
theorem sLs_app {f : Nat → Int32} : ∀ (a b : List Nat), sLs f (a ++ b) = sLs f a + sLs f b
  | [], b => by rw [List.nil_append, sLs, Int32.zero_add]
  | x :: a, b => by rw [List.cons_append, sLs, sLs, sLs_app a b, Int32.add_assoc]
theorem sLs_rev {f : Nat → Int32} : ∀ a : List Nat, sLs f a.reverse = sLs f a
  | [] => rfl
  | x :: a => by rw [List.reverse_cons, sLs_app, sLs_rev a, sLs, sLs, sLs, Int32.add_zero, Int32.add_comm]
theorem sS_at {f : Nat → Int32} {b : Nat} {x : Int32} : ∀ n, sS (fun p => f p + if p = b then x else 0) n = sS f n + (if b < n then x else 0)
  | 0 => by rw [if_neg (by omega)]; rfl
  | n + 1 => by
    rw [sS, sS_at n, sS]
    by_cases h : n = b
    · rw [if_pos h, if_neg (by omega), if_pos (by omega), Int32.add_zero, Int32.add_assoc]
    · rw [if_neg h]
      by_cases h2 : b < n
      · rw [if_pos h2, if_pos (by omega), Int32.add_zero, Int32.add_assoc, Int32.add_comm x, ← Int32.add_assoc]
      · rw [if_neg h2, if_neg (by omega), Int32.add_zero, Int32.add_zero, Int32.add_zero]
theorem sS_z {f : Nat → Int32} {m : Nat} : ∀ j, (∀ x, m ≤ x → x < m + j → f x = 0) → sS f (m + j) = sS f m
  | 0, _ => rfl
  | j + 1, h => by
    show sS f (m + j + 1) = _
    rw [sS, h (m + j) (by omega) (by omega), Int32.add_zero]
    exact sS_z j (fun x h1 h2 => h x h1 (by omega))
theorem sS_c {f g : Nat → Int32} : ∀ n, (∀ x, x < n → f x = g x) → sS f n = sS g n
  | 0, _ => rfl
  | n + 1, h => by rw [sS, sS, sS_c n (fun x hx => h x (by omega)), h n (by omega)]
/-- what the one at x is denied, the baker apart -/
def uT (c : Nat → Int32) (l np nk : Nat) (wet : Int32) (x : Nat) : Int32 := if c (34 + l) = nI x then 0 else hF c l x nk - gF c l x np nk wet
def dnF (c : Nat → Int32) (l np nk : Nat) (wet : Int32) : Int32 := sS (fun p => if 0 < hF c l p nk then uT c l np nk wet p else 0) np
theorem dn_LF {c : Nat → Int32} {l np nk : Nat} {wet : Int32} : sLs (uT c l np nk wet) (LF c l np nk).reverse = dnF c l np nk wet := by
  rw [sLs_rev]; exact sLs_RF np
theorem dn_8 {σ : mSt} {t l np no nl nk dy : Nat} {c : Nat → Int32} {w : Nat → Int64} {wet : Int32} (hT : TRel σ t c w np no nl nk dy) (hl : l < nl) : sS (fun p => if 0 < hF c l p nk then uT c l np nk wet p else 0) 8 = dnF c l np nk wet := by
  have h8 := hT.1.1
  unfold dnF
  generalize hf : (fun p => if 0 < hF c l p nk then uT c l np nk wet p else 0) = f
  have e : sS f 8 = sS f (np + (8 - np)) := by rw [show np + (8 - np) = 8 by omega]
  rw [e]
  refine sS_z (8 - np) (fun x h1 h2 => ?_)
  rw [← hf]
  dsimp only
  rw [TRel_hz hT hl h1 (by omega), if_neg (by decide)]
theorem Tw_bakerOf {E : mEn} {d : Nat} {σ : mSt} {Q : mPost} {t nl l np no : Nat} {c : Nat → Int32} (ht : isT t) (h : σ.1 t 15 = nI nl) (hn : nl ≤ 8) (hl : l < nl) (hr : LRel σ t c np no l) : WP E (d + 1) mTw_bakerOf 0 [.ref t, .int (nI l)] [] σ Q = Q (some (.int (c (34 + l)))) σ := by
  have e1 : σ.1 (t + 19) l = c (34 + l) := hr.1.1
  simp (disch := first | omega | assumption | exact b2i_or | exact T10 | exact Or.inl rfl | exact Or.inr rfl) only [bTw_bakerOf_0, bTw_bakerOf_5, bTw_bakerOf_8, bTw_bakerOf_17, bTw_bakerOf_18, Tw_hasLoaf ht h hn, tl_s, mOut_f hl (show nl ≤ 2 ^ 31 by omega), mOut_f, nI_clamp, e1, b2i_T, b2i_F, i10, not_true_eq_false, not_false_eq_true, and_self, and_true, true_and, and_false, false_and, or_true, true_or, or_false, false_or, or_self, if_true, if_false, ite_self, eq_self, Bool.false_eq_true, Bool.true_eq_false]
def SHd (h o k : Nat) : Bool := o == h + 5
theorem SHd_SH {h o k : Nat} (g : SHd h o k = true) : SHs h o k = true := by
  simp only [SHd, beq_iff_eq] at g
  subst g
  exact SH_in (by omega)
theorem Sh_settle_loop {E : mEn} {d : Nat} {Q : mPost} {h t l np nk bk : Nat} {c : Nat → Int32} {b : Int32} (hh : isH h) (ht : isT t) (hb : c (34 + l) = nI bk) (hbk : bk < 8) {τ0 : mSt} (g : DG τ0 h c l np nk b)
    (hQ : ∀ υ, qt (SHd h) τ0 υ → (∀ p, p < 8 → υ.1 (h + 5) p = ow (hF c l p nk)) → WP E d mSh_settle 98 [.ref h, .ref t, .int (nI l), .int b, .int (c (34 + l)), .int (sS (fun p => if 0 < hF c l p nk then uT c l np nk b p else 0) 8), .int (nI 8)] [] υ Q) : ∀ (j p : Nat) (τ : mSt) (s : Int32), p + j = 8 → qt (SHd h) τ0 τ → (∀ x, x < p → τ.1 (h + 5) x = ow (hF c l x nk)) → s = sS (fun p => if 0 < hF c l p nk then uT c l np nk b p else 0) p → WP E d mSh_settle 29 [.ref h, .ref t, .int (nI l), .int b, .int (c (34 + l)), .int s, .int (nI p)] [] τ Q
  | 0, p, τ, s, e, q, hx, hs => by
    have e' : p = 8 := by omega
    subst e'
    rw [bSh_settle_29 hh ht, if_pos (Int32.le_refl _), hs]
    exact hQ τ q hx
  | j + 1, p, τ, s, e, q, hx, hs => by
    have e1 : τ.1 (h + 1) p = hF c l p nk := ((q _ _ (by simp [SHd])).1).trans (g.1 p (by omega)).1
    have e2 : τ.1 (h + 4) p = gF c l p np nk b := ((q _ _ (by simp [SHd])).1).trans (g.2.2 p (by omega))
    have q' : qt (SHd h) τ0 (sI τ (h + 5) p (ow (hF c l p nk))) := qt_sI q (by simp [SHd])
    have hx' : ∀ x, x < p + 1 → (sI τ (h + 5) p (ow (hF c l p nk))).1 (h + 5) x = ow (hF c l x nk) := fun x hx2 => by
      rw [sI_rd]
      split
      · rename_i g2; rw [g2.2]
      · exact hx x (by omega)
    have e3 : (if 0 < -hF c l p nk then -hF c l p nk else 0) = ow (hF c l p nk) := rfl
    have f1 : (sI τ (h + 5) p (ow (hF c l p nk))).1 (h + 1) p = hF c l p nk := by rw [sI_rd, if_neg (by omega)]; exact e1
    have f2 : (sI τ (h + 5) p (ow (hF c l p nk))).1 (h + 4) p = gF c l p np nk b := by rw [sI_rd, if_neg (by omega)]; exact e2
    rw [bSh_settle_29 hh ht, if_neg (nI_ge (by omega) (by omega)), bSh_settle_36 hh ht, mOut_f (by omega) (by omega), nI_clamp (by omega), e1, e3, if_neg (by decide), if_neg (by decide)]
    by_cases z : nI p = c (34 + l)
    · rw [if_pos z, bSh_settle_92 hh ht, nI_1]
      refine Sh_settle_loop hh ht hb hbk g hQ j (p + 1) _ _ (by omega) q' hx' ?_
      rw [sS, hs, uT, if_pos z.symm, ite_self, Int32.add_zero]
    · rw [if_neg z, bSh_settle_62 hh ht, mOut_f (by omega) (by omega), nI_clamp (by omega), f1, if_neg (by decide)]
      by_cases y : 0 < hF c l p nk
      · rw [if_neg (Int32.not_le.mpr y), bSh_settle_72 hh ht, mOut_f (by omega) (by omega), nI_clamp (by omega), f1, f2, if_neg (by decide), if_neg (by decide), bSh_settle_92 hh ht, nI_1]
        refine Sh_settle_loop hh ht hb hbk g hQ j (p + 1) _ _ (by omega) q' hx' ?_
        rw [sS, hs, if_pos y, uT, if_neg (fun w => z w.symm)]
      · rw [if_pos (Int32.not_lt.mp y), bSh_settle_92 hh ht, nI_1]
        refine Sh_settle_loop hh ht hb hbk g hQ j (p + 1) _ _ (by omega) q' hx' ?_
        rw [sS, hs, if_neg y, Int32.add_zero]
/-- settled -/
def ST (υ : mSt) (h : Nat) (c : Nat → Int32) (l np nk : Nat) (wet : Int32) : Prop := DG υ h c l np nk wet ∧ ∀ p, p < 8 → υ.1 (h + 5) p = ow (hF c l p nk) + if c (34 + l) = nI p then dnF c l np nk wet else 0
theorem Sh_settle {E : mEn} {d : Nat} {Q : mPost} {σ : mSt} {h t l np no nl nk dy : Nat} {c : Nat → Int32} {w : Nat → Int64} {b : Int32} {u1 u2 u3 : Value} (hh : isH h) (ht : isT t) (hT : TRel σ t c w np no nl nk dy) (hl : l < nl) (hQ : ∀ υ, qt (SHs h) σ υ → ST υ h c l np nk b → Q none υ) : WP E (d + 5) mSh_settle 0 [.ref h, .ref t, .int (nI l), .int b, u1, u2, u3] [] σ Q := by
  have hnp := hT.1.1
  rw [bSh_settle_0 hh ht]
  refine Sh_weigh hh ht hT hl (fun τ q g => ?_)
  have hT' : TRel τ t c w np no nl nk dy := TRel_q q (fun j k hj _ _ => SH_T hh ht hj) hT
  rw [tl_n, bSh_settle_6 hh ht, Tw_comesOf ht hT'.2.2.2.1.1 hT'.1.2.2.1 hl (hT'.2.2.2.2.2.2.2.2.2.1 l hl), tl_s, bSh_settle_13 hh ht]
  refine Sh_weal hh ht hT hl q g (fun υ q2 g2 => ?_)
  have hT2 : TRel υ t c w np no nl nk dy := TRel_q q2 (fun j k hj _ _ => SH_T hh ht hj) hT
  obtain ⟨bk, hbk, ebk⟩ := (hT2.2.2.2.2.2.2.2.2.2.1 l hl).1.2
  rw [tl_n, bSh_settle_16 hh ht, Tw_bakerOf ht hT2.2.2.2.1.1 hT2.1.2.2.1 hl (hT2.2.2.2.2.2.2.2.2.2.1 l hl), tl_s, bSh_settle_21 hh ht, show (0 : Int32) = nI 0 from rfl]
  refine Sh_settle_loop (c := c) (np := np) (nk := nk) hh ht ebk (by omega) g2 (fun ω q3 g3 => ?_) 8 0 υ _ (by omega) qt_rf (fun x hx => absurd hx (by omega)) rfl
  have q4 : qt (SHs h) σ ω := qt_tr q2 (qt_mono q3 (fun o k => SHd_SH))
  have hT3 : TRel ω t c w np no nl nk dy := TRel_q q4 (fun j k hj _ _ => SH_T hh ht hj) hT
  rw [bSh_settle_98 hh ht, Tw_hasPerson ht hT3.2.1.1 hnp, tl_s, bSh_settle_104 hh ht, ebk, b2i_t (mOut_f hbk (by omega)), if_neg i10, bSh_settle_107 hh ht, mOut_f (by omega) (by omega), nI_clamp (by omega), if_neg (by decide), if_neg (by decide), bSh_settle_119 hh ht, dn_8 hT hl]
  have hd : ∀ k, SHd h (h + 1) k = false ∧ SHd h (h + 2) k = false ∧ SHd h (h + 3) k = false ∧ SHd h (h + 4) k = false ∧ SHd h h k = false := fun k => by simp [SHd]
  have q5 : qt (SHd h) υ (sI ω (h + 5) bk (ω.1 (h + 5) bk + dnF c l np nk b)) := qt_sI q3 (by simp [SHd])
  refine hQ _ (qt_tr q2 (qt_mono q5 (fun o k => SHd_SH))) ⟨⟨HS_q q5 (fun k => (hd k).1) (fun k => (hd k).2.1) g2.1, LN_q q5 (hd 6).2.2.2.2 (fun k => (hd k).2.2.1) g2.2.1, fun p hp => ((q5 _ _ (hd p).2.2.2.1).1).trans (g2.2.2 p hp)⟩, fun p hp => ?_⟩
  rw [sI_rd, ebk]
  by_cases z : p = bk
  · rw [if_pos ⟨rfl, z⟩, if_pos (by rw [z]), z, g3 bk (by omega)]
  · rw [if_neg (fun y => z y.2), if_neg (by rw [nI_eq (by omega) (by omega)]; omega), g3 p hp, Int32.add_zero]
theorem Mo_unmet_loop {E : mEn} {d : Nat} {Q : mPost} {l np nk : Nat} {c : Nat → Int32} (hl : l < 8) (hk : c 3 = nI nk) (hn : nk ≤ 40) {w : Nat} (hw : w ≤ 8) {b : Int32} {τ : mSt} (hc : τ.1 171 = c) (h6 : τ.1 166 28 = nI w) (hg : DL τ 176 c l np nk (cF c l b)) : ∀ (L : List Nat) (k : Nat) (n : Int32), k + L.length = w → (∀ x ∈ L, x < 8) → qs (τ.1 175) k L → WP E (d + 4) mMo_unmet 11 [.ref 166, .int (nI l), .int b, .int n, .int (nI k)] [] τ Q = Q (some (.int (n + sLs (uT c l np nk b) L))) τ
  | [], k, n, e, hL, hq => by
    have e' : k = w := by simpa using e
    rw [bMo_unmet_11, h6, if_pos (nI_le (by omega) (by omega)), bMo_unmet_77, sLs, Int32.add_zero]
  | x :: L, k, n, e, hL, hq => by
    have e' : k + L.length + 1 = w := by simpa [Nat.add_assoc] using e
    have hx : x < 8 := hL x List.mem_cons_self
    have hx' := qs_h hq
    rw [bMo_unmet_11, h6, if_neg (nI_ge (by omega) (by omega)), bMo_unmet_20, mOut_f (by omega) (by omega), nI_clamp (by omega), hx', nI_add, mOut_f (by omega) (by omega), nI_clamp (by omega), hc, if_neg (by decide), if_neg (by decide), sLs, uT, ← Int32.add_assoc]
    by_cases z : nI x = c (34 + l)
    · rw [ite_nn z, bMo_unmet_40, bMo_unmet_69, nI_1, if_pos z.symm]
      exact Mo_unmet_loop hl hk hn hw hc h6 hg L (k + 1) _ (by omega) (fun y hy => hL y (List.mem_cons_of_mem _ hy)) (qs_t hq)
    · rw [if_pos z, bMo_unmet_44, mOut_f (by omega) (by omega), nI_clamp (by omega), hx', if_neg (by decide), Mo_holdsOf hl hx (by rw [hc]; exact hk) hn, tl_s, bMo_unmet_56, mOut_f (by omega) (by omega), nI_clamp (by omega), hx', mOut_f (by omega) (by omega), nI_clamp (by omega), if_neg (by decide), if_neg (by decide), bMo_unmet_69, nI_1, if_neg (fun w => z w.symm), hc, hg x hx]
      exact Mo_unmet_loop hl hk hn hw hc h6 hg L (k + 1) _ (by omega) (fun y hy => hL y (List.mem_cons_of_mem _ hy)) (qs_t hq)
theorem Mo_unmet {E : mEn} {d : Nat} {Q : mPost} {σ : mSt} {l np nk : Nat} {b : Int32} {u1 u2 : Value} (hl : l < 8) (hc0 : σ.1 171 0 = nI np) (hnp : np ≤ 8) (hk : σ.1 171 3 = nI nk) (hn : nk ≤ 40) (hQ : ∀ υ, qt SDl σ υ → DL υ 176 (σ.1 171) l np nk (cF (σ.1 171) l b) → Q (some (.int (dnF (σ.1 171) l np nk b))) υ) : WP E (d + 6) mMo_unmet 0 [.ref 166, .int (nI l), .int b, u1, u2] [] σ Q := by
  have len := LF_len (c := σ.1 171) (l := l) (np := np) (nk := nk)
  rw [bMo_unmet_0]
  refine Mo_deals hl hc0 hnp hk hn (fun τ q g1 g2 => ?_)
  rw [tl_n, bMo_unmet_6, show (0 : Int32) = nI 0 from rfl, Mo_unmet_loop (c := σ.1 171) hl hk hn (w := (LF (σ.1 171) l np nk).length) (by omega) (funext fun k => (q 171 k rfl).1) g1.1 g2 (LF (σ.1 171) l np nk).reverse 0 _ (by simp) (fun x hx => by have := (LF_mem (List.mem_reverse.mp hx)).1; omega) (qs_r g1.2), dn_LF, show nI 0 + dnF (σ.1 171) l np nk b = dnF (σ.1 171) l np nk b from Int32.zero_add _]
  exact hQ τ q g2
