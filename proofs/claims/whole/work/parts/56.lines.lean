def SLn (o k : Nat) : Bool := o == 175 || (o == 166 && k == 28)
def LNm (τ : mSt) (R : List Nat) : Prop := τ.1 166 28 = nI R.length ∧ qm (τ.1 175) R
theorem Mo_lineIn {E : mEn} {d : Nat} {Q : mPost} {l p w nk : Nat} {c : Nat → Int32} (hl : l < 8) (hp : p < 8) (hw : w < 8) (hk : c 3 = nI nk) (hn : nk ≤ 40) : ∀ (r S : List Nat) (τ : mSt), r.length + S.length = w → (∀ x ∈ r, x < 8) → τ.1 171 = c → qm (τ.1 175) r → qB (τ.1 175) S w → τ.1 166 28 = nI w →
    (∀ υ a3, qt SLn τ υ → υ.1 166 28 = nI (w + 1) → qm (υ.1 175) (S ++ insR (fun q => snc c l q nk) p r) → WP E (d + 4) mMo_lines 97 [.ref 166, .int (nI l), .int (nI p), .int a3] [] υ Q) → WP E (d + 4) mMo_lines 34 [.ref 166, .int (nI l), .int (nI p), .int (nI r.length)] [] τ Q
  | [], S, τ, e, hr, hc, hA, hB, h6, hQ => by
    have e' : S.length = w := by simpa using e
    simp (disch := first | omega | assumption | exact b2i_or | exact T10 | exact Or.inl rfl | exact Or.inr rfl) only [List.length_nil, bMo_lines_34, bMo_lines_80, show nI 0 ≤ (0 : Int32) by decide, mOut_f, nI_clamp, not_true_eq_false, not_false_eq_true, and_self, and_true, true_and, and_false, false_and, or_true, true_or, or_false, false_or, or_self, if_true, if_false, ite_self, eq_self, Bool.false_eq_true, Bool.true_eq_false]
    refine hQ _ _ (qt_sI (qt_sI qt_rf rfl) rfl) ?_ ?_
    · rw [sI_rd, if_pos ⟨rfl, rfl⟩, sI_rd, if_neg (by omega), h6, nI_1]
    · rw [sI_o (by omega), sI_u]
      exact qm_0 (by rw [e']; exact hB)
  | x :: r, S, τ, e, hr, hc, hA, hB, h6, hQ => by
    have hle : r.length + 1 + S.length = w := by simpa using e
    have hx : x < 8 := hr x List.mem_cons_self
    have fx : τ.1 175 r.length = nI x := by simpa using hA 0 x rfl
    have e1 : nI (r.length + 1) - 1 = nI r.length := nI_pred _
    have hk' : τ.1 171 3 = nI nk := by rw [hc]; exact hk
    rw [List.length_cons, bMo_lines_34, if_neg (nI_nle (by omega) (by omega)), bMo_lines_38, e1, mOut_f (by omega) (by omega), nI_clamp (by omega), fx, if_neg (by decide), Mo_turnOf hl hx hk' hn, tl_s, bMo_lines_51, Mo_turnOf hl hp hk' hn, tl_s, bMo_lines_57, hc]
    have te := trn_le (c := c) (l := l) (p := x) (q := p) hn
    by_cases hq : snc c l x nk ≤ snc c l p nk
    · rw [if_pos (by rw [te]; exact hq)]
      simp (disch := first | omega | assumption | exact b2i_or | exact T10 | exact Or.inl rfl | exact Or.inr rfl) only [bMo_lines_80, mOut_f, nI_clamp, not_true_eq_false, not_false_eq_true, and_self, and_true, true_and, and_false, false_and, or_true, true_or, or_false, false_or, or_self, if_true, if_false, ite_self, eq_self, Bool.false_eq_true, Bool.true_eq_false]
      refine hQ _ _ (qt_sI (qt_sI qt_rf rfl) rfl) ?_ ?_
      · rw [sI_rd, if_pos ⟨rfl, rfl⟩, sI_rd, if_neg (by omega), h6, nI_1]
      · rw [sI_o (by omega), sI_u, insR, if_pos hq]
        exact qm_1 hA (by rw [hle]; exact hB)
    · rw [if_neg (by rw [te]; exact hq), bMo_lines_60, e1, pk_m1, mOut_f (by omega) (by omega), nI_clamp (by omega), mOut_f (by omega) (by omega), nI_clamp (by omega), if_neg (by decide), if_neg (by decide)]
      refine Mo_lineIn hl hp hw hk hn r (S ++ [x]) (sI τ 175 (r.length + 1) (τ.1 175 r.length)) (by rw [List.length_append]; simp only [List.length_cons, List.length_nil]; omega) (fun y hy => hr y (List.mem_cons_of_mem _ hy)) ((sI_o (by omega)).trans hc) (by rw [sI_u]; exact qm_A hA) (by rw [sI_u]; have := qB_s hA (S := S) (by rw [hle]; exact hB); rw [show r.length + (S ++ [x]).length = w by rw [List.length_append]; simp only [List.length_cons, List.length_nil]; omega] at this; exact this) (by rw [sI_rd, if_neg (by omega)]; exact h6) (fun υ a3 q g3 g4 => ?_)
      refine hQ υ a3 (qt_tr (qt_sI qt_rf rfl) q) g3 ?_
      rw [insR, if_neg hq]
      rw [List.append_assoc] at g4
      exact g4
theorem Mo_lines_loop {E : mEn} {d : Nat} {Q : mPost} {l np nk : Nat} {c : Nat → Int32} (hl : l < 8) (hc0 : c 0 = nI np) (hnp : np ≤ 8) (hk : c 3 = nI nk) (hn : nk ≤ 40) : ∀ (j n : Nat) (τ : mSt) (u : Value), n + j = np → τ.1 171 = c → LNm τ (RF (fun q => snc c l q nk) (fun q => hF c l q nk) n) →
    (∀ υ, qt SLn τ υ → LNm υ (RF (fun q => snc c l q nk) (fun q => hF c l q nk) np) → Q none υ) → WP E (d + 4) mMo_lines 7 [.ref 166, .int (nI l), .int (nI n), u] [] τ Q
  | 0, n, τ, u, e, hc, hL, hQ => by
    have e8 : n = np := by omega
    subst e8
    rw [bMo_lines_7, hc, hc0, if_neg (by decide), if_pos (Int32.le_refl _), bMo_lines_103]
    exact hQ τ qt_rf hL
  | j + 1, n, τ, u, e, hc, hL, hQ => by
    have hk' : τ.1 171 3 = nI nk := by rw [hc]; exact hk
    rw [bMo_lines_7, hc, hc0, if_neg (by decide), if_neg (nI_ge (by omega) (by omega)), bMo_lines_17, Mo_holdsOf hl (show n < 8 by omega) hk' hn, tl_s, bMo_lines_23, hc]
    have len := RF_len (key := fun q => snc c l q nk) (held := fun q => hF c l q nk) n
    by_cases h0 : 0 < hF c l n nk
    · rw [if_pos h0, bMo_lines_29, hL.1]
      refine Mo_lineIn hl (show n < 8 by omega) (show (RF (fun q => snc c l q nk) (fun q => hF c l q nk) n).length < 8 by omega) hk hn (RF (fun q => snc c l q nk) (fun q => hF c l q nk) n) [] τ (by simp) (fun x hx => by have := (RF_mem n x hx).1; omega) hc hL.2 (fun j x hj => by simp at hj) hL.1 (fun υ a3 q g3 g4 => ?_)
      rw [bMo_lines_97, nI_1]
      refine Mo_lines_loop hl hc0 hnp hk hn j (n + 1) υ _ (by omega) ((funext fun k => (q 171 k rfl).1).trans hc) ⟨?_, ?_⟩ (fun ω q2 w => hQ ω (qt_tr q q2) w)
      · rw [RF, if_pos h0, insR_len]; exact g3
      · rw [RF, if_pos h0]; simpa using g4
    · rw [if_neg h0, bMo_lines_26, bMo_lines_97, nI_1]
      exact Mo_lines_loop hl hc0 hnp hk hn j (n + 1) τ _ (by omega) hc (by rw [RF, if_neg h0]; exact hL) hQ
/-- who is no person holds nothing -/
theorem hF_out {c : Nat → Int32} {l p np nk : Nat} (hp : np ≤ p) (hp8 : p < 2 ^ 31) (hb : ∃ q, q < np ∧ c (34 + l) = nI q) (hg : ∀ k, k < nk → (∃ q, q < np ∧ c (82 + 6 * k + 2) = nI q) ∧ ∃ q, q < np ∧ c (82 + 6 * k + 3) = nI q) : ∀ k, k ≤ nk → hF c l p k = 0
  | 0, _ => by
    obtain ⟨q, h1, h2⟩ := hb
    rw [hF, h2, if_neg]
    rw [nI_eq (by omega) hp8]; omega
  | k + 1, h => by
    obtain ⟨⟨q, h1, h2⟩, q', h3, h4⟩ := hg k (by omega)
    rw [hF, hF_out hp hp8 hb hg k (by omega)]
    have n1 : ¬ c (82 + 6 * k + 2) = nI p := by rw [h2, nI_eq (by omega) hp8]; omega
    have n2 : ¬ c (82 + 6 * k + 3) = nI p := by rw [h4, nI_eq (by omega) hp8]; omega
    rw [if_neg n1, if_neg n2]
    split <;> rfl
/-- the LINE of loaf l -/
def LF (c : Nat → Int32) (l np nk : Nat) : List Nat := RF (fun q => snc c l q nk) (fun q => hF c l q nk) np
theorem Mo_lines {E : mEn} {d : Nat} {Q : mPost} {σ : mSt} {l np nk : Nat} {u1 u2 : Value} (hl : l < 8) (hc0 : σ.1 171 0 = nI np) (hnp : np ≤ 8) (hk : σ.1 171 3 = nI nk) (hn : nk ≤ 40) (hQ : ∀ υ, qt SLn σ υ → LNm υ (LF (σ.1 171) l np nk) → Q none υ) : WP E (d + 4) mMo_lines 0 [.ref 166, .int (nI l), u1, u2] [] σ Q := by
  rw [bMo_lines_0, show (0 : Int32) = nI 0 from rfl]
  refine Mo_lines_loop (c := σ.1 171) hl hc0 hnp hk hn np 0 _ _ (by omega) rfl ⟨rfl, fun j x hj => by simp [RF] at hj⟩ (fun υ q g => hQ υ (qt_tr (qt_sI qt_rf rfl) q) g)
theorem LF_8 {σ : mSt} {t l np no nl nk dy : Nat} {c : Nat → Int32} {w : Nat → Int64} (hT : TRel σ t c w np no nl nk dy) (hl : l < nl) : RF (fun q => snc c l q nk) (fun q => hF c l q nk) 8 = LF c l np nk := by
  obtain ⟨⟨b1, b2, b3, b4, b5⟩, -, -, -, -, -, -, -, -, g10, -, g12, -⟩ := hT
  have hz : ∀ x, x < 8 → np ≤ x → hF c l x nk = 0 := fun x hx hx2 => hF_out hx2 (by omega) (g10 l hl).1.2 (fun k hk => ⟨(g12 k hk).2.2.1.2, (g12 k hk).2.2.2.1.2⟩) nk (Nat.le_refl _)
  have e1 : RF (fun q => snc c l q nk) (fun q => hF c l q nk) 8 = RF (fun q => snc c l q nk) (fun q => if q < 8 then hF c l q nk else 0) 8 := RF_ext 8 (fun x hx => by simp [hx]) (fun _ _ _ _ => Iff.rfl)
  have e2 : RF (fun q => snc c l q nk) (fun q => hF c l q nk) np = RF (fun q => snc c l q nk) (fun q => if q < 8 then hF c l q nk else 0) np := RF_ext np (fun x hx => by simp [show x < 8 by omega]) (fun _ _ _ _ => Iff.rfl)
  unfold LF
  rw [e1, e2, show 8 = np + (8 - np) by omega]
  exact RF_z (8 - np) (fun x hx => by
    split
    · exact hz x (by omega) hx
    · rfl)
