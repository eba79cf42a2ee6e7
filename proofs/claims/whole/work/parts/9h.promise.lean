def pPart (T : Nat → Int32) (n : Nat) (w : Nat → Int64) (np nl q : Nat) : Except (Nat × Nat) ((Nat × Nat × Nat × Nat × Nat) × Nat) :=
  match pWd T n 10 q with
  | .error e => .error e
  | .ok q1 => match pNum T n 1 99 q1 with
  | .error e => .error e
  | .ok (s, q2) => match pWd T n 11 q2 with
  | .error e => .error e
  | .ok q3 => match pName T n w 12 nl (-1) q3 with
  | .error e => .error e
  | .ok (l, q4) => match pWd T n 12 q4 with
  | .error e => .error e
  | .ok q5 => match pName T n w 0 np (-1) q5 with
  | .error e => .error e
  | .ok (p, q6) => match pWd T n 13 q6 with
  | .error e => .error e
  | .ok q7 => match pName T n w 0 np (nI p) q7 with
  | .error e => .error e
  | .ok (r, q8) => match pOpt T n 14 999 q8 with
  | .error e => .error e
  | .ok (f, q9) => .ok ((s, l, p, r, f), q9)
def S9 (o k : Nat) : Bool := o == 9
def S9b (o k : Nat) : Bool := S6b o k || o == 9
theorem S9_b {o k : Nat} (h : S9 o k = true) : S9b o k = true := by simp only [S9, S9b] at h ⊢; rw [h, Bool.or_true]
theorem S6_9 {o k : Nat} (h : S6b o k = true) : S9b o k = true := by simp only [S9b, h, Bool.true_or]
section RP
variable {E : mEn} {d : Nat} {Q : mPost} {τ : mSt} {s : Int32} {t : Nat}
theorem rR137 (ht : isT t) {k : Nat} (hk : k < 5) (hQ : ∀ υ, qt S9 τ υ → Q none υ) : WP E d mTe_readPromise 137 [.ref 5, .ref (t + 1)] [.int s, .int (nI k), .ref 9] τ Q := by
  rw [bTe_readPromise_137 ht, mOut_f (by omega) (by omega), if_neg (by decide)]
  exact hQ _ (qt_sI qt_rf rfl)
theorem rR104_b (ht : isT t) (h : ¬ τ.1 6 9 = 0) (hQ : ∀ υ, qt S9 τ υ → Q none υ) : WP E (d + 4) mTe_readPromise 104 [.ref 5, .ref (t + 1)] [.int s, .int (nI 3), .ref 9] τ Q := by
  rw [bTe_readPromise_104 ht, mOut_f (by omega) (by omega), if_neg (by decide), To_skips_b (τ := sI τ 9 (nI 3).toNatClampNeg s) h, tl_s, bTe_readPromise_119 ht, if_pos rfl, bTe_readPromise_136 ht]
  exact rR137 (k := 4) ht (by omega) (fun υ q => hQ υ (qt_tr (qt_sI qt_rf rfl) q))
theorem rR84_b (ht : isT t) (h : ¬ τ.1 6 9 = 0) (hQ : ∀ υ, qt S9 τ υ → Q none υ) : WP E (d + 4) mTe_readPromise 84 [.ref 5, .ref (t + 1)] [] τ Q := by
  rw [bTe_readPromise_84 ht, mOut_f (by omega) (by omega), if_neg (by decide), To_takeName_b ht h, tl_s]
  exact rR104_b ht h hQ
theorem rR74_b (ht : isT t) (h : ¬ τ.1 6 9 = 0) (hQ : ∀ υ, qt S9 τ υ → Q none υ) : WP E (d + 4) mTe_readPromise 74 [.ref 5, .ref (t + 1)] [.int s, .int (nI 2), .ref 9] τ Q := by
  rw [bTe_readPromise_74 ht, mOut_f (by omega) (by omega), if_neg (by decide), To_takeWord_b (τ := sI τ 9 (nI 2).toNatClampNeg s) h, tl_n]
  exact rR84_b ht h (fun υ q => hQ υ (qt_tr (qt_sI qt_rf rfl) q))
theorem rR59_b (ht : isT t) (h : ¬ τ.1 6 9 = 0) (hQ : ∀ υ, qt S9 τ υ → Q none υ) : WP E (d + 4) mTe_readPromise 59 [.ref 5, .ref (t + 1)] [] τ Q := by
  rw [bTe_readPromise_59 ht, To_takeName_b ht h, tl_s]
  exact rR74_b ht h hQ
theorem rR49_b (ht : isT t) (h : ¬ τ.1 6 9 = 0) (hQ : ∀ υ, qt S9 τ υ → Q none υ) : WP E (d + 4) mTe_readPromise 49 [.ref 5, .ref (t + 1)] [.int s, .int (nI 1), .ref 9] τ Q := by
  rw [bTe_readPromise_49 ht, mOut_f (by omega) (by omega), if_neg (by decide), To_takeWord_b (τ := sI τ 9 (nI 1).toNatClampNeg s) h, tl_n]
  exact rR59_b ht h (fun υ q => hQ υ (qt_tr (qt_sI qt_rf rfl) q))
theorem rR34_b (ht : isT t) (h : ¬ τ.1 6 9 = 0) (hQ : ∀ υ, qt S9 τ υ → Q none υ) : WP E (d + 4) mTe_readPromise 34 [.ref 5, .ref (t + 1)] [] τ Q := by
  rw [bTe_readPromise_34 ht, To_takeName_b ht h, tl_s]
  exact rR49_b ht h hQ
theorem rR24_b (ht : isT t) (h : ¬ τ.1 6 9 = 0) (hQ : ∀ υ, qt S9 τ υ → Q none υ) : WP E (d + 4) mTe_readPromise 24 [.ref 5, .ref (t + 1)] [.int s, .int (nI 0), .ref 9] τ Q := by
  rw [bTe_readPromise_24 ht, mOut_f (by omega) (by omega), if_neg (by decide), To_takeWord_b (τ := sI τ 9 (nI 0).toNatClampNeg s) h, tl_n]
  exact rR34_b ht h (fun υ q => hQ υ (qt_tr (qt_sI qt_rf rfl) q))
theorem rR9_b (ht : isT t) (h : ¬ τ.1 6 9 = 0) (hQ : ∀ υ, qt S9 τ υ → Q none υ) : WP E (d + 4) mTe_readPromise 9 [.ref 5, .ref (t + 1)] [] τ Q := by
  rw [bTe_readPromise_9 ht, To_takeNumber_b h, tl_s]
  exact rR24_b ht h hQ
theorem rR0_b (ht : isT t) (h : ¬ τ.1 6 9 = 0) (hQ : ∀ υ, qt S9 τ υ → Q none υ) : WP E (d + 4) mTe_readPromise 0 [.ref 5, .ref (t + 1)] [] τ Q := by
  rw [bTe_readPromise_0 ht, To_takeWord_b h, tl_n]
  exact rR9_b ht h hQ
end RP
