/-- into the row (the last first) by its key, behind those that are not later -/
def insR (key : Nat → Int32) (p : Nat) : List Nat → List Nat
  | [] => [p]
  | x :: r => if key x ≤ key p then p :: x :: r else x :: insR key p r
def RF (key held : Nat → Int32) : Nat → List Nat
  | 0 => []
  | n + 1 => if 0 < held n then insR key n (RF key held n) else RF key held n
theorem insR_len {key : Nat → Int32} {p : Nat} : ∀ r : List Nat, (insR key p r).length = r.length + 1
  | [] => rfl
  | x :: r => by
    unfold insR
    split
    · rfl
    · simp only [List.length_cons, insR_len r]
theorem insR_mem {key : Nat → Int32} {p : Nat} : ∀ (r : List Nat) (x : Nat), x ∈ insR key p r → x = p ∨ x ∈ r
  | [], x, h => Or.inl (by simpa [insR] using h)
  | y :: r, x, h => by
    unfold insR at h
    split at h
    · rcases List.mem_cons.mp h with h | h
      · exact Or.inl h
      · exact Or.inr h
    · rcases List.mem_cons.mp h with h | h
      · exact Or.inr (by rw [h]; exact List.mem_cons_self)
      · rcases insR_mem r x h with g | g
        · exact Or.inl g
        · exact Or.inr (List.mem_cons_of_mem _ g)
theorem RF_mem {key held : Nat → Int32} : ∀ (n x : Nat), x ∈ RF key held n → x < n ∧ 0 < held x
  | 0, x, h => by simp [RF] at h
  | n + 1, x, h => by
    unfold RF at h
    split at h
    · rename_i hp
      rcases insR_mem _ _ h with g | g
      · rw [g]; exact ⟨by omega, hp⟩
      · have := RF_mem n x g; exact ⟨by omega, this.2⟩
    · have := RF_mem n x h; exact ⟨by omega, this.2⟩
theorem RF_len {key held : Nat → Int32} : ∀ n, (RF key held n).length ≤ n
  | 0 => Nat.le_refl 0
  | n + 1 => by
    unfold RF
    have := RF_len (key := key) (held := held) n
    split
    · rw [insR_len]; omega
    · omega
theorem RF_ext {key key' held held' : Nat → Int32} : ∀ n, (∀ x, x < n → held x = held' x) → (∀ x y, x < n → y < n → (key x ≤ key y ↔ key' x ≤ key' y)) → RF key held n = RF key' held' n
  | 0, _, _ => rfl
  | n + 1, h1, h2 => by
    unfold RF
    rw [h1 n (by omega), RF_ext n (fun x hx => h1 x (by omega)) (fun x y hx hy => h2 x y (by omega) (by omega))]
    split
    · have : ∀ r : List Nat, (∀ x ∈ r, x < n) → insR key n r = insR key' n r := by
        intro r
        induction r with
        | nil => intro _; rfl
        | cons x r ih =>
          intro hr
          unfold insR
          have e := h2 x n (by have := hr x List.mem_cons_self; omega) (by omega)
          rw [ih (fun y hy => hr y (List.mem_cons_of_mem _ hy))]
          by_cases q : key x ≤ key n
          · rw [if_pos q, if_pos (e.mp q)]
          · rw [if_neg q, if_neg (fun w => q (e.mpr w))]
      exact this _ (fun x hx => (RF_mem n x hx).1)
    · rfl
theorem RF_z {key held : Nat → Int32} {m : Nat} : ∀ j, (∀ x, m ≤ x → held x = 0) → RF key held (m + j) = RF key held m
  | 0, _ => rfl
  | j + 1, h => by
    show RF key held ((m + j) + 1) = _
    rw [RF, if_neg (by rw [h (m + j) (by omega)]; decide), RF_z j h]
/-- a row of numbers holds these persons, the last of the row first in the list -/
def qm (f : Nat → Int32) (R : List Nat) : Prop := ∀ j x, R[j]? = some x → f (R.length - 1 - j) = nI x
def qB (f : Nat → Int32) (S : List Nat) (w : Nat) : Prop := ∀ j x, S[j]? = some x → f (w - j) = nI x
theorem qm_0 {f : Nat → Int32} {S : List Nat} {p : Nat} (hB : qB f S S.length) : qm (upd f 0 (nI p)) (S ++ [p]) := by
  intro j x hj
  rw [List.length_append]
  by_cases h : j < S.length
  · rw [List.getElem?_append_left h] at hj
    rw [show S.length + [p].length - 1 - j = S.length - j by simp, pk_un (by omega)]
    exact hB j x hj
  · rw [List.getElem?_append_right (by omega)] at hj
    have hz : j - S.length = 0 := by
      have := (List.getElem?_eq_some_iff.mp hj).1
      simp at this; omega
    rw [hz] at hj
    simp at hj
    subst hj
    rw [show S.length + [p].length - 1 - j = 0 by simp; omega, pk_us]
theorem qm_1 {f : Nat → Int32} {S r : List Nat} {p x0 : Nat} (hA : qm f (x0 :: r)) (hB : qB f S (r.length + 1 + S.length)) : qm (upd f (r.length + 1) (nI p)) (S ++ p :: x0 :: r) := by
  intro j x hj
  rw [List.length_append, List.length_cons, List.length_cons]
  by_cases h : j < S.length
  · rw [List.getElem?_append_left h] at hj
    rw [pk_un (by omega), ← hB j x hj]
    congr 1; omega
  · rw [List.getElem?_append_right (by omega)] at hj
    by_cases h2 : j = S.length
    · subst h2
      rw [Nat.sub_self] at hj
      simp at hj
      subst hj
      rw [show S.length + (r.length + 1 + 1) - 1 - S.length = r.length + 1 by omega, pk_us]
    · rw [show j - S.length = (j - S.length - 1) + 1 by omega, List.getElem?_cons_succ] at hj
      have hl := (List.getElem?_eq_some_iff.mp hj).1
      simp only [List.length_cons] at hl
      rw [pk_un (by omega), ← hA _ x hj, List.length_cons]
      congr 1; omega
theorem qm_A {f : Nat → Int32} {r : List Nat} {x0 : Nat} {v : Int32} (hA : qm f (x0 :: r)) : qm (upd f (r.length + 1) v) r := by
  intro j x hj
  have hl := (List.getElem?_eq_some_iff.mp hj).1
  rw [pk_un (by omega), ← hA (j + 1) x (by simpa using hj), List.length_cons]
  congr 1; omega
theorem qB_s {f : Nat → Int32} {S r : List Nat} {x0 : Nat} (hA : qm f (x0 :: r)) (hB : qB f S (r.length + 1 + S.length)) : qB (upd f (r.length + 1) (f r.length)) (S ++ [x0]) (r.length + (S ++ [x0]).length) := by
  intro j x hj
  rw [List.length_append]
  by_cases h : j < S.length
  · rw [List.getElem?_append_left h] at hj
    rw [pk_un (by simp; omega), ← hB j x hj]
    congr 1; simp; omega
  · rw [List.getElem?_append_right (by omega)] at hj
    have hz : j - S.length = 0 := by
      have := (List.getElem?_eq_some_iff.mp hj).1
      simp at this; omega
    rw [hz] at hj
    simp at hj
    subst hj
    rw [show r.length + (S.length + [x0].length) - j = r.length + 1 by simp; omega, pk_us]
    have := hA 0 x0 rfl
    simpa using this
theorem sI_o {σ : mSt} {o k : Nat} {v : Int32} {a : Nat} (h : a ≠ o) : (sI σ o k v).1 a = σ.1 a := sI_1 h
theorem Sh_lineIn {E : mEn} {d : Nat} {Q : mPost} {h p w : Nat} (hh : isH h) (hp : p < 8) (hw : w < 8) : ∀ (r S : List Nat) (τ : mSt), r.length + S.length = w → (∀ x ∈ r, x < 8) → qm (τ.1 (h + 3)) r → qB (τ.1 (h + 3)) S w → τ.1 h 6 = nI w →
    (∀ υ a2, qt (SHs h) τ υ → υ.1 (h + 1) = τ.1 (h + 1) → υ.1 (h + 2) = τ.1 (h + 2) → υ.1 h 6 = nI (w + 1) → qm (υ.1 (h + 3)) (S ++ insR (τ.1 (h + 2)) p r) → WP E d mSh_lineUp 88 [.ref h, .int (nI p), .int a2] [] υ Q) → WP E d mSh_lineUp 25 [.ref h, .int (nI p), .int (nI r.length)] [] τ Q
  | [], S, τ, e, hr, hA, hB, h6, hQ => by
    have e' : S.length = w := by simpa using e
    simp (disch := first | omega | assumption | exact b2i_or | exact T10 | exact Or.inl rfl | exact Or.inr rfl) only [List.length_nil, bSh_lineUp_25, bSh_lineUp_71, nI_le, show nI 0 ≤ (0 : Int32) by decide, mOut_f, nI_clamp, not_true_eq_false, not_false_eq_true, and_self, and_true, true_and, and_false, false_and, or_true, true_or, or_false, false_or, or_self, if_true, if_false, ite_self, eq_self, Bool.false_eq_true, Bool.true_eq_false]
    refine hQ _ _ (qt_sI (qt_sI qt_rf (SH_in (by omega))) SH_in0) ?_ ?_ ?_ ?_
    · rw [sI_o (by omega), sI_o (by omega)]
    · rw [sI_o (by omega), sI_o (by omega)]
    · rw [sI_rd, if_pos ⟨rfl, rfl⟩, sI_rd, if_neg (by omega), h6, nI_1]
    · rw [sI_o (by omega), sI_u]
      exact qm_0 (by rw [e']; exact hB)
  | x :: r, S, τ, e, hr, hA, hB, h6, hQ => by
    have hl : r.length + 1 + S.length = w := by simpa using e
    have hx : x < 8 := hr x List.mem_cons_self
    have fx : τ.1 (h + 3) r.length = nI x := by simpa using hA 0 x rfl
    have e1 : nI (r.length + 1) - 1 = nI r.length := nI_pred _
    rw [List.length_cons, bSh_lineUp_25 hh, if_neg (nI_nle (by omega) (by omega)), bSh_lineUp_29 hh, e1, mOut_f (by omega) (by omega), nI_clamp (by omega), fx, mOut_f hx (by omega), nI_clamp (by omega), mOut_f hp (by omega), nI_clamp (by omega), if_neg (by decide), if_neg (by decide), if_neg (by decide)]
    by_cases hk : τ.1 (h + 2) x ≤ τ.1 (h + 2) p
    · rw [if_pos hk]
      simp (disch := first | omega | assumption | exact b2i_or | exact T10 | exact Or.inl rfl | exact Or.inr rfl) only [bSh_lineUp_71, mOut_f, nI_clamp, not_true_eq_false, not_false_eq_true, and_self, and_true, true_and, and_false, false_and, or_true, true_or, or_false, false_or, or_self, if_true, if_false, ite_self, eq_self, Bool.false_eq_true, Bool.true_eq_false]
      refine hQ _ _ (qt_sI (qt_sI qt_rf (SH_in (by omega))) SH_in0) ?_ ?_ ?_ ?_
      · rw [sI_o (by omega), sI_o (by omega)]
      · rw [sI_o (by omega), sI_o (by omega)]
      · rw [sI_rd, if_pos ⟨rfl, rfl⟩, sI_rd, if_neg (by omega), h6, nI_1]
      · rw [sI_o (by omega), sI_u, insR, if_pos hk]
        exact qm_1 hA (by rw [hl]; exact hB)
    · rw [if_neg hk, bSh_lineUp_51 hh, e1, pk_m1, mOut_f (by omega) (by omega), nI_clamp (by omega), mOut_f (by omega) (by omega), nI_clamp (by omega), if_neg (by decide), if_neg (by decide)]
      have ek : (sI τ (h + 3) (r.length + 1) (τ.1 (h + 3) r.length)).1 (h + 2) = τ.1 (h + 2) := sI_o (by omega)
      refine Sh_lineIn hh hp hw r (S ++ [x]) (sI τ (h + 3) (r.length + 1) (τ.1 (h + 3) r.length)) (by rw [List.length_append]; simp only [List.length_cons, List.length_nil]; omega) (fun y hy => hr y (List.mem_cons_of_mem _ hy)) (by rw [sI_u]; exact qm_A hA) (by rw [sI_u]; have := qB_s hA (S := S) (by rw [hl]; exact hB); rw [show r.length + (S ++ [x]).length = w by rw [List.length_append]; simp only [List.length_cons, List.length_nil]; omega] at this; exact this) (by rw [sI_rd, if_neg (by omega)]; exact h6) (fun υ a2 q g1 g2 g3 g4 => ?_)
      refine hQ υ a2 (qt_tr (qt_sI qt_rf (SH_in (by omega))) q) (g1.trans (sI_o (by omega))) (g2.trans ek) g3 ?_
      rw [insR, if_neg hk]
      rw [ek, List.append_assoc] at g4
      exact g4
/-- the LINE of a loaf stands in a share -/
def LN (τ : mSt) (h : Nat) (R : List Nat) : Prop := τ.1 h 6 = nI R.length ∧ qm (τ.1 (h + 3)) R
theorem Sh_line_loop {E : mEn} {d : Nat} {Q : mPost} {h : Nat} {key held : Nat → Int32} (hh : isH h) : ∀ (j n : Nat) (τ : mSt) (u : Value), n + j = 8 → τ.1 (h + 2) = key → τ.1 (h + 1) = held → LN τ h (RF key held n) →
    (∀ υ, qt (SHs h) τ υ → υ.1 (h + 1) = held → υ.1 (h + 2) = key → LN υ h (RF key held 8) → Q none υ) → WP E d mSh_lineUp 2 [.ref h, .int (nI n), u] [] τ Q
  | 0, n, τ, u, e, hk, hd, hL, hQ => by
    have e8 : n = 8 := by omega
    subst e8
    rw [bSh_lineUp_2 hh, if_pos (Int32.le_refl _), bSh_lineUp_94 hh]
    exact hQ τ qt_rf hd hk hL
  | j + 1, n, τ, u, e, hk, hd, hL, hQ => by
    rw [bSh_lineUp_2 hh, if_neg (nI_ge (by omega) (by omega)), bSh_lineUp_8 hh, mOut_f (by omega) (by omega), nI_clamp (by omega), if_neg (by decide), hd]
    have len := RF_len (key := key) (held := held) n
    by_cases h0 : 0 < held n
    · rw [if_pos h0, bSh_lineUp_20 hh, hL.1]
      refine Sh_lineIn hh (show n < 8 by omega) (show (RF key held n).length < 8 by omega) (RF key held n) [] τ (by simp) (fun x hx => by have := (RF_mem n x hx).1; omega) hL.2 (fun j x hj => by simp at hj) hL.1 (fun υ a2 q g1 g2 g3 g4 => ?_)
      rw [bSh_lineUp_88 hh, nI_1]
      rw [hk] at g2 g4
      refine Sh_line_loop hh j (n + 1) υ _ (by omega) g2 (g1.trans hd) ⟨?_, ?_⟩ (fun ω q2 w1 w2 w3 => hQ ω (qt_tr q q2) w1 w2 w3)
      · rw [RF, if_pos h0, insR_len]; exact g3
      · rw [RF, if_pos h0]; simpa using g4
    · rw [if_neg h0, bSh_lineUp_17 hh, bSh_lineUp_88 hh, nI_1]
      exact Sh_line_loop hh j (n + 1) τ _ (by omega) hk hd (by rw [RF, if_neg h0]; exact hL) hQ
/-- what weigh leaves in a share: HOLDS, since when, the LINE -/
def WG (τ : mSt) (h : Nat) (c : Nat → Int32) (l nk : Nat) : Prop := HS τ h c l nk ∧ LN τ h (RF (fun p => snc c l p nk) (fun p => hF c l p nk) 8)
theorem Sh_weigh {E : mEn} {d : Nat} {Q : mPost} {σ : mSt} {h t l np no nl nk dy : Nat} {c : Nat → Int32} {w : Nat → Int64} {u1 u2 : Value} (hh : isH h) (ht : isT t) (hT : TRel σ t c w np no nl nk dy) (hl : l < nl)
    (hQ : ∀ τ, qt (SHs h) σ τ → WG τ h c l nk → Q none τ) : WP E (d + 2) mSh_weigh 0 [.ref h, .ref t, .int (nI l), u1, u2] [] σ Q := by
  obtain ⟨⟨b1, b2, b3, b4, b5⟩, -, -, ⟨t3, -⟩, ⟨t4, -⟩, -, -, -, -, g10, -, g12, -⟩ := hT
  have ne : ∀ i i', i < 25 → i' ≤ 5 → ¬ (t + i = h + i') := fun i i' hi hi' w => by
    have := SH_T (k := 0) hh ht hi
    rw [w, SH_in hi'] at this; cases this
  have ne0 : ∀ i, i < 25 → ¬ (t + i = h) := fun i hi w => ne i 0 hi (by omega) w
  have ne1 : ∀ i', i' ≤ 5 → ¬ (t = h + i') := fun i' hi w => ne 0 i' (by omega) hi w
  have ne2 : ¬ (t = h) := ne1 0 (by omega)
  obtain ⟨⟨e1, p, hp, e1'⟩, -, -, ⟨e4, -⟩, -⟩ := g10 l hl
  have q1 : qt (SHs h) σ (sI (fillI (fillI σ (h + 1) 0 8 0) (h + 2) 0 8 (nI 40)) h 6 0) := qt_sI (qt_fI (qt_fI qt_rf (fun _ => SH_in (by omega))) (fun _ => SH_in (by omega))) SH_in0
  rw [bSh_weigh_0 hh ht, Ar_fill (shH_1 hh) (ltH hh (by omega)) (by omega), tl_n, bSh_weigh_8 hh ht, Ar_fill (shH_2 hh) (ltH hh (by omega)) (by omega), tl_n, bSh_weigh_17 hh ht, Tw_hasLoaf ht ((q1 t 15 (by have := SH_T (j := 0) (k := 15) hh ht (by omega); exact this)).1.trans t3) b3, tl_s, bSh_weigh_27 hh ht, b2i_t (mOut_f hl (by omega)), if_pos i10]
  generalize hτ : sI (fillI (fillI σ (h + 1) 0 8 0) (h + 2) 0 8 (nI 40)) h 6 0 = τ at q1 ⊢
  have T : ∀ i x, i < 25 → τ.1 (t + i) x = σ.1 (t + i) x := fun i x hi => (q1 _ _ (SH_T hh ht hi)).1
  have f1 : ∀ x, x < 8 → τ.1 (h + 1) x = 0 := fun x hx => by
    rw [← hτ, sI_rd, if_neg (by omega)]
    simp [fillI, hx]
  have f2 : ∀ x, x < 8 → τ.1 (h + 2) x = nI 40 := fun x hx => by
    rw [← hτ, sI_rd, if_neg (by omega)]
    simp [fillI, hx]
  have f6 : τ.1 h 6 = 0 := by rw [← hτ, sI_rd, if_pos ⟨rfl, rfl⟩]
  have tb : τ.1 (t + 19) l = nI p := (T 19 l (by omega)).trans (e1.trans e1')
  have ts : τ.1 (t + 22) l = c (58 + l) := (T 22 l (by omega)).trans e4
  have R : ∀ (υ : mSt) (i' y i x : Nat) (v : Int32), i < 25 → i' ≤ 5 → (sI υ (h + i') y v).1 (t + i) x = υ.1 (t + i) x := fun υ i' y i x v hi hi' => by rw [sI_rd, if_neg (fun w => ne i i' hi hi' w.1)]
  simp (disch := first | omega | assumption | exact b2i_or | exact T10 | exact Or.inl rfl | exact Or.inr rfl) only [bSh_weigh_31, bSh_weigh_60, mOut_f, nI_clamp, tb, ts, R _ 1 _ 19 l, not_true_eq_false, not_false_eq_true, and_self, and_true, true_and, and_false, false_and, or_true, true_or, or_false, false_or, or_self, if_true, if_false, ite_self, eq_self, Bool.false_eq_true, Bool.true_eq_false]
  rw [show (0 : Int32) = nI 0 from rfl]
  refine Sh_weigh_loop (c := c) hh ht b1 hl b3 t4 b4 g12 ?_ nk 0 _ (by omega) (qt_tr q1 (qt_sI (qt_sI qt_rf (SH_in (by omega))) (SH_in (by omega)))) ?_ (by rw [sI_rd, if_neg (by omega), sI_rd, if_neg (by omega)]; exact f6)
  · intro υ qυ hs h6
    have hqm : LN υ h (RF (υ.1 (h + 2)) (υ.1 (h + 1)) 0) := by
      refine ⟨?_, fun j x hj => by simp [RF] at hj⟩
      rw [h6]; rfl
    rw [bSh_weigh_177 hh ht, bSh_lineUp_0 hh, show (0 : Int32) = nI 0 from rfl]
    refine Sh_line_loop hh 8 0 υ _ (by omega) rfl rfl hqm (fun ω q2 w1 w2 w3 => ?_)
    rw [tl_n, bSh_weigh_181 hh ht]
    refine hQ ω (qt_tr qυ q2) ⟨fun x hx => ?_, ?_⟩
    · rw [w1, w2]; exact hs x hx
    · have e : RF (fun p => snc c l p nk) (fun p => hF c l p nk) 8 = RF (υ.1 (h + 2)) (υ.1 (h + 1)) 8 := by
        refine RF_ext 8 (fun x hx => (hs x hx).1.symm) (fun x y hx hy => ?_)
        rw [(hs x hx).2, (hs y hy).2]
      rw [e]; exact w3
  · intro x hx
    have ep : (c (34 + l) = nI x) ↔ p = x := by rw [e1', nI_eq (by omega) (by omega)]
    constructor
    · rw [hF, sI_rd, if_neg (by omega), sI_rd]
      by_cases y : x = p
      · subst y; simp [ep]
      · have y' : ¬ p = x := fun w => y w.symm
        simp [ep, y, y', f1 x hx]
    · rw [snc, sI_rd]
      by_cases y : x = p
      · subst y; simp [ep]
      · have y' : ¬ p = x := fun w => y w.symm
        rw [if_neg (fun w => y w.2), sI_rd, if_neg (by omega), f2 x hx, if_neg (fun w => y' (ep.mp w))]; rfl
