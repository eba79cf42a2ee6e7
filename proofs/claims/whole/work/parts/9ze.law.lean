/-! the law's loop: every call by its pair -/
section LW
variable {E : mEn} {d : Nat} {σ : mSt} {Q : mPost} {i : Nat}
theorem law_0 (hi : i + 6 ≤ E.1) (hE : E.1 ≤ 3072) (hI : Inv σ) (nx : ∀ τ, Inv τ → WP E (d + 81) mLa_law 1788 [.ref 1000, .ref 0, .ref 166, .int (nI i)] [] τ Q) : WP E (d + 81) mLa_law 236 [.ref 1000, .ref 0, .ref 166, .int (nI i)] [] σ Q := by
  rw [bLa_law_236]
  refine WP_mono (fun r σ1 h => ?_) (P_status hI)
  obtain ⟨v, rfl, h⟩ := h
  rw [tl_s, bLa_law_240]
  refine WP_mono (fun r σ2 h2 => ?_) h
  obtain ⟨rfl, hI2⟩ := h2
  rw [tl_s, bLa_law_244, if_pos rfl]
  exact nx σ2 hI2
theorem law_1 (hi : i + 6 ≤ E.1) (hE : E.1 ≤ 3072) (hI : Inv σ) (nx : ∀ τ, Inv τ → WP E (d + 81) mLa_law 1788 [.ref 1000, .ref 0, .ref 166, .int (nI i)] [] τ Q) : WP E (d + 81) mLa_law 249 [.ref 1000, .ref 0, .ref 166, .int (nI i)] [] σ Q := by
  rw [bLa_law_249]
  refine WP_mono (fun r σ1 h => ?_) (P_top hI)
  obtain ⟨v, rfl, h⟩ := h
  rw [tl_s, bLa_law_253]
  refine WP_mono (fun r σ2 h2 => ?_) h
  obtain ⟨rfl, hI2⟩ := h2
  rw [tl_s, bLa_law_257, if_pos (by rw [lg_eq0])]
  exact nx σ2 hI2
theorem law_2 (hi : i + 6 ≤ E.1) (hE : E.1 ≤ 3072) (hI : Inv σ) (nx : ∀ τ, Inv τ → WP E (d + 81) mLa_law 1788 [.ref 1000, .ref 0, .ref 166, .int (nI i)] [] τ Q) : WP E (d + 81) mLa_law 263 [.ref 1000, .ref 0, .ref 166, .int (nI i)] [] σ Q := by
  rw [bLa_law_263]
  refine WP_mono (fun r σ1 h => ?_) (P_bottom hI)
  obtain ⟨v, rfl, h⟩ := h
  rw [tl_s, bLa_law_267]
  refine WP_mono (fun r σ2 h2 => ?_) h
  obtain ⟨rfl, hI2⟩ := h2
  rw [tl_s, bLa_law_271, if_pos (by rw [lg_eq0])]
  exact nx σ2 hI2
theorem law_3 (hi : i + 6 ≤ E.1) (hE : E.1 ≤ 3072) (hI : Inv σ) (nx : ∀ τ, Inv τ → WP E (d + 81) mLa_law 1788 [.ref 1000, .ref 0, .ref 166, .int (nI i)] [] τ Q) : WP E (d + 81) mLa_law 277 [.ref 1000, .ref 0, .ref 166, .int (nI i)] [] σ Q := by
  rw [bLa_law_277]
  simp (disch := first | omega | assumption | exact b2i_or | exact T10 | exact Or.inl rfl | exact Or.inr rfl) only [nI_1, nI_add, mOut_f, nI_clamp, Bool.false_eq_true, if_false]
  refine WP_mono (fun r σ1 h => ?_) (P_tray hI)
  obtain ⟨v, rfl, h⟩ := h
  rw [tl_s, bLa_law_296]
  simp (disch := first | omega | assumption | exact b2i_or | exact T10 | exact Or.inl rfl | exact Or.inr rfl) only [nI_1, nI_add, mOut_f, nI_clamp, Bool.false_eq_true, if_false]
  refine WP_mono (fun r σ2 h2 => ?_) h
  obtain ⟨rfl, hI2⟩ := h2
  rw [tl_s, bLa_law_315, if_pos rfl]
  exact nx σ2 hI2
theorem law_4 (hi : i + 6 ≤ E.1) (hE : E.1 ≤ 3072) (hI : Inv σ) (nx : ∀ τ, Inv τ → WP E (d + 81) mLa_law 1788 [.ref 1000, .ref 0, .ref 166, .int (nI i)] [] τ Q) : WP E (d + 81) mLa_law 320 [.ref 1000, .ref 0, .ref 166, .int (nI i)] [] σ Q := by
  rw [bLa_law_320]
  simp (disch := first | omega | assumption | exact b2i_or | exact T10 | exact Or.inl rfl | exact Or.inr rfl) only [nI_1, nI_add, mOut_f, nI_clamp, Bool.false_eq_true, if_false]
  refine WP_mono (fun r σ1 h => ?_) (P_write hI)
  obtain ⟨v, rfl, h⟩ := h
  rw [tl_s, bLa_law_354]
  simp (disch := first | omega | assumption | exact b2i_or | exact T10 | exact Or.inl rfl | exact Or.inr rfl) only [nI_1, nI_add, mOut_f, nI_clamp, Bool.false_eq_true, if_false]
  refine WP_mono (fun r σ2 h2 => ?_) h
  obtain ⟨rfl, hI2⟩ := h2
  rw [tl_s, bLa_law_388, if_pos rfl]
  exact nx σ2 hI2
theorem law_5 (hi : i + 6 ≤ E.1) (hE : E.1 ≤ 3072) (hI : Inv σ) (nx : ∀ τ, Inv τ → WP E (d + 81) mLa_law 1788 [.ref 1000, .ref 0, .ref 166, .int (nI i)] [] τ Q) : WP E (d + 81) mLa_law 393 [.ref 1000, .ref 0, .ref 166, .int (nI i)] [] σ Q := by
  rw [bLa_law_393]
  simp (disch := first | omega | assumption | exact b2i_or | exact T10 | exact Or.inl rfl | exact Or.inr rfl) only [nI_1, nI_add, mOut_f, nI_clamp, Bool.false_eq_true, if_false]
  refine WP_mono (fun r σ1 h => ?_) (P_read hI)
  obtain ⟨v, rfl, h⟩ := h
  rw [tl_s, bLa_law_407]
  simp (disch := first | omega | assumption | exact b2i_or | exact T10 | exact Or.inl rfl | exact Or.inr rfl) only [nI_1, nI_add, mOut_f, nI_clamp, Bool.false_eq_true, if_false]
  refine WP_mono (fun r σ2 h2 => ?_) h
  obtain ⟨rfl, hI2⟩ := h2
  rw [tl_s, bLa_law_421, if_pos (by rw [lg_eq0])]
  exact nx σ2 hI2
theorem law_6 (hi : i + 6 ≤ E.1) (hE : E.1 ≤ 3072) (hI : Inv σ) (nx : ∀ τ, Inv τ → WP E (d + 81) mLa_law 1788 [.ref 1000, .ref 0, .ref 166, .int (nI i)] [] τ Q) : WP E (d + 81) mLa_law 427 [.ref 1000, .ref 0, .ref 166, .int (nI i)] [] σ Q := by
  rw [bLa_law_427]
  simp (disch := first | omega | assumption | exact b2i_or | exact T10 | exact Or.inl rfl | exact Or.inr rfl) only [nI_1, nI_add, mOut_f, nI_clamp, Bool.false_eq_true, if_false]
  refine WP_mono (fun r σ1 h => ?_) (P_pour hI)
  obtain ⟨v, rfl, h⟩ := h
  rw [tl_s, bLa_law_456]
  simp (disch := first | omega | assumption | exact b2i_or | exact T10 | exact Or.inl rfl | exact Or.inr rfl) only [nI_1, nI_add, mOut_f, nI_clamp, Bool.false_eq_true, if_false]
  refine WP_mono (fun r σ2 h2 => ?_) h
  obtain ⟨rfl, hI2⟩ := h2
  rw [tl_s, bLa_law_485, if_pos rfl]
  exact nx σ2 hI2
theorem law_7 (hi : i + 6 ≤ E.1) (hE : E.1 ≤ 3072) (hI : Inv σ) (nx : ∀ τ, Inv τ → WP E (d + 81) mLa_law 1788 [.ref 1000, .ref 0, .ref 166, .int (nI i)] [] τ Q) : WP E (d + 81) mLa_law 490 [.ref 1000, .ref 0, .ref 166, .int (nI i)] [] σ Q := by
  rw [bLa_law_490]
  simp (disch := first | omega | assumption | exact b2i_or | exact T10 | exact Or.inl rfl | exact Or.inr rfl) only [nI_1, nI_add, mOut_f, nI_clamp, Bool.false_eq_true, if_false]
  refine WP_mono (fun r σ1 h => ?_) (P_feed hI)
  obtain ⟨v, rfl, h⟩ := h
  rw [tl_s, bLa_law_519]
  simp (disch := first | omega | assumption | exact b2i_or | exact T10 | exact Or.inl rfl | exact Or.inr rfl) only [nI_1, nI_add, mOut_f, nI_clamp, Bool.false_eq_true, if_false]
  refine WP_mono (fun r σ2 h2 => ?_) h
  obtain ⟨rfl, hI2⟩ := h2
  rw [tl_s, bLa_law_548, if_pos rfl]
  exact nx σ2 hI2
theorem law_8 (hi : i + 6 ≤ E.1) (hE : E.1 ≤ 3072) (hI : Inv σ) (nx : ∀ τ, Inv τ → WP E (d + 81) mLa_law 1788 [.ref 1000, .ref 0, .ref 166, .int (nI i)] [] τ Q) : WP E (d + 81) mLa_law 553 [.ref 1000, .ref 0, .ref 166, .int (nI i)] [] σ Q := by
  rw [bLa_law_553]
  simp (disch := first | omega | assumption | exact b2i_or | exact T10 | exact Or.inl rfl | exact Or.inr rfl) only [nI_1, nI_add, mOut_f, nI_clamp, Bool.false_eq_true, if_false]
  refine WP_mono (fun r σ1 h => ?_) (P_town (u := uu) (v := uu) hI)
  obtain ⟨v, rfl, h⟩ := h
  rw [tl_s, bLa_law_562]
  simp (disch := first | omega | assumption | exact b2i_or | exact T10 | exact Or.inl rfl | exact Or.inr rfl) only [nI_1, nI_add, mOut_f, nI_clamp, Bool.false_eq_true, if_false]
  refine WP_mono (fun r σ2 h2 => ?_) h
  obtain ⟨rfl, hI2⟩ := h2
  rw [tl_s, bLa_law_571, if_pos rfl]
  exact nx σ2 hI2
theorem law_9 (hi : i + 6 ≤ E.1) (hE : E.1 ≤ 3072) (hI : Inv σ) (nx : ∀ τ, Inv τ → WP E (d + 81) mLa_law 1788 [.ref 1000, .ref 0, .ref 166, .int (nI i)] [] τ Q) : WP E (d + 81) mLa_law 576 [.ref 1000, .ref 0, .ref 166, .int (nI i)] [] σ Q := by
  rw [bLa_law_576]
  simp (disch := first | omega | assumption | exact b2i_or | exact T10 | exact Or.inl rfl | exact Or.inr rfl) only [nI_1, nI_add, mOut_f, nI_clamp, Bool.false_eq_true, if_false]
  refine WP_mono (fun r σ1 h => ?_) (P_days (u := uu) (v := uu) hI)
  obtain ⟨v, rfl, h⟩ := h
  rw [tl_s, bLa_law_585]
  simp (disch := first | omega | assumption | exact b2i_or | exact T10 | exact Or.inl rfl | exact Or.inr rfl) only [nI_1, nI_add, mOut_f, nI_clamp, Bool.false_eq_true, if_false]
  refine WP_mono (fun r σ2 h2 => ?_) h
  obtain ⟨rfl, hI2⟩ := h2
  rw [tl_s, bLa_law_594, if_pos rfl]
  exact nx σ2 hI2
theorem law_10 (hi : i + 6 ≤ E.1) (hE : E.1 ≤ 3072) (hI : Inv σ) (nx : ∀ τ, Inv τ → WP E (d + 81) mLa_law 1788 [.ref 1000, .ref 0, .ref 166, .int (nI i)] [] τ Q) : WP E (d + 81) mLa_law 599 [.ref 1000, .ref 0, .ref 166, .int (nI i)] [] σ Q := by
  rw [bLa_law_599]
  simp (disch := first | omega | assumption | exact b2i_or | exact T10 | exact Or.inl rfl | exact Or.inr rfl) only [nI_1, nI_add, mOut_f, nI_clamp, Bool.false_eq_true, if_false]
  refine WP_mono (fun r σ1 h => ?_) (P_fault hI)
  obtain ⟨v, rfl, h⟩ := h
  rw [tl_s, bLa_law_608]
  simp (disch := first | omega | assumption | exact b2i_or | exact T10 | exact Or.inl rfl | exact Or.inr rfl) only [nI_1, nI_add, mOut_f, nI_clamp, Bool.false_eq_true, if_false]
  refine WP_mono (fun r σ2 h2 => ?_) h
  obtain ⟨rfl, hI2⟩ := h2
  rw [tl_s, bLa_law_617, if_pos rfl]
  exact nx σ2 hI2
theorem law_11 (hi : i + 6 ≤ E.1) (hE : E.1 ≤ 3072) (hI : Inv σ) (nx : ∀ τ, Inv τ → WP E (d + 81) mLa_law 1788 [.ref 1000, .ref 0, .ref 166, .int (nI i)] [] τ Q) : WP E (d + 81) mLa_law 622 [.ref 1000, .ref 0, .ref 166, .int (nI i)] [] σ Q := by
  rw [bLa_law_622]
  simp (disch := first | omega | assumption | exact b2i_or | exact T10 | exact Or.inl rfl | exact Or.inr rfl) only [nI_1, nI_add, mOut_f, nI_clamp, Bool.false_eq_true, if_false]
  refine WP_mono (fun r σ1 h => ?_) (P_many hI)
  obtain ⟨v, rfl, h⟩ := h
  rw [tl_s, bLa_law_631]
  simp (disch := first | omega | assumption | exact b2i_or | exact T10 | exact Or.inl rfl | exact Or.inr rfl) only [nI_1, nI_add, mOut_f, nI_clamp, Bool.false_eq_true, if_false]
  refine WP_mono (fun r σ2 h2 => ?_) h
  obtain ⟨rfl, hI2⟩ := h2
  rw [tl_s, bLa_law_640, if_pos rfl]
  exact nx σ2 hI2
theorem law_12 (hi : i + 6 ≤ E.1) (hE : E.1 ≤ 3072) (hI : Inv σ) (nx : ∀ τ, Inv τ → WP E (d + 81) mLa_law 1788 [.ref 1000, .ref 0, .ref 166, .int (nI i)] [] τ Q) : WP E (d + 81) mLa_law 645 [.ref 1000, .ref 0, .ref 166, .int (nI i)] [] σ Q := by
  rw [bLa_law_645]
  simp (disch := first | omega | assumption | exact b2i_or | exact T10 | exact Or.inl rfl | exact Or.inr rfl) only [nI_1, nI_add, mOut_f, nI_clamp, Bool.false_eq_true, if_false]
  refine WP_mono (fun r σ1 h => ?_) (P_person hI)
  obtain ⟨v, rfl, h⟩ := h
  rw [tl_s, bLa_law_659]
  simp (disch := first | omega | assumption | exact b2i_or | exact T10 | exact Or.inl rfl | exact Or.inr rfl) only [nI_1, nI_add, mOut_f, nI_clamp, Bool.false_eq_true, if_false]
  refine WP_mono (fun r σ2 h2 => ?_) h
  obtain ⟨rfl, hI2⟩ := h2
  rw [tl_s, bLa_law_673, if_pos rfl]
  exact nx σ2 hI2
theorem law_13 (hi : i + 6 ≤ E.1) (hE : E.1 ≤ 3072) (hI : Inv σ) (nx : ∀ τ, Inv τ → WP E (d + 81) mLa_law 1788 [.ref 1000, .ref 0, .ref 166, .int (nI i)] [] τ Q) : WP E (d + 81) mLa_law 678 [.ref 1000, .ref 0, .ref 166, .int (nI i)] [] σ Q := by
  rw [bLa_law_678]
  simp (disch := first | omega | assumption | exact b2i_or | exact T10 | exact Or.inl rfl | exact Or.inr rfl) only [nI_1, nI_add, mOut_f, nI_clamp, Bool.false_eq_true, if_false]
  refine WP_mono (fun r σ1 h => ?_) (P_loaf hI)
  obtain ⟨v, rfl, h⟩ := h
  rw [tl_s, bLa_law_692]
  simp (disch := first | omega | assumption | exact b2i_or | exact T10 | exact Or.inl rfl | exact Or.inr rfl) only [nI_1, nI_add, mOut_f, nI_clamp, Bool.false_eq_true, if_false]
  refine WP_mono (fun r σ2 h2 => ?_) h
  obtain ⟨rfl, hI2⟩ := h2
  rw [tl_s, bLa_law_706, if_pos rfl]
  exact nx σ2 hI2
theorem law_14 (hi : i + 6 ≤ E.1) (hE : E.1 ≤ 3072) (hI : Inv σ) (nx : ∀ τ, Inv τ → WP E (d + 81) mLa_law 1788 [.ref 1000, .ref 0, .ref 166, .int (nI i)] [] τ Q) : WP E (d + 81) mLa_law 711 [.ref 1000, .ref 0, .ref 166, .int (nI i)] [] σ Q := by
  rw [bLa_law_711]
  simp (disch := first | omega | assumption | exact b2i_or | exact T10 | exact Or.inl rfl | exact Or.inr rfl) only [nI_1, nI_add, mOut_f, nI_clamp, Bool.false_eq_true, if_false]
  refine WP_mono (fun r σ1 h => ?_) (P_promise hI)
  obtain ⟨v, rfl, h⟩ := h
  rw [tl_s, bLa_law_725]
  simp (disch := first | omega | assumption | exact b2i_or | exact T10 | exact Or.inl rfl | exact Or.inr rfl) only [nI_1, nI_add, mOut_f, nI_clamp, Bool.false_eq_true, if_false]
  refine WP_mono (fun r σ2 h2 => ?_) h
  obtain ⟨rfl, hI2⟩ := h2
  rw [tl_s, bLa_law_739, if_pos rfl]
  exact nx σ2 hI2
theorem law_15 (hi : i + 6 ≤ E.1) (hE : E.1 ≤ 3072) (hI : Inv σ) (nx : ∀ τ, Inv τ → WP E (d + 81) mLa_law 1788 [.ref 1000, .ref 0, .ref 166, .int (nI i)] [] τ Q) : WP E (d + 81) mLa_law 744 [.ref 1000, .ref 0, .ref 166, .int (nI i)] [] σ Q := by
  rw [bLa_law_744]
  simp (disch := first | omega | assumption | exact b2i_or | exact T10 | exact Or.inl rfl | exact Or.inr rfl) only [nI_1, nI_add, mOut_f, nI_clamp, Bool.false_eq_true, if_false]
  refine WP_mono (fun r σ1 h => ?_) (P_holds hI)
  obtain ⟨v, rfl, h⟩ := h
  rw [tl_s, bLa_law_758]
  simp (disch := first | omega | assumption | exact b2i_or | exact T10 | exact Or.inl rfl | exact Or.inr rfl) only [nI_1, nI_add, mOut_f, nI_clamp, Bool.false_eq_true, if_false]
  refine WP_mono (fun r σ2 h2 => ?_) h
  obtain ⟨rfl, hI2⟩ := h2
  rw [tl_s, bLa_law_772, if_pos rfl]
  exact nx σ2 hI2
theorem law_16 (hi : i + 6 ≤ E.1) (hE : E.1 ≤ 3072) (hI : Inv σ) (nx : ∀ τ, Inv τ → WP E (d + 81) mLa_law 1788 [.ref 1000, .ref 0, .ref 166, .int (nI i)] [] τ Q) : WP E (d + 81) mLa_law 777 [.ref 1000, .ref 0, .ref 166, .int (nI i)] [] σ Q := by
  rw [bLa_law_777]
  simp (disch := first | omega | assumption | exact b2i_or | exact T10 | exact Or.inl rfl | exact Or.inr rfl) only [nI_1, nI_add, mOut_f, nI_clamp, Bool.false_eq_true, if_false]
  refine WP_mono (fun r σ1 h => ?_) (P_deep (u1 := uu) (u2 := uu) hI)
  obtain ⟨v, rfl, h⟩ := h
  rw [tl_s, bLa_law_786]
  simp (disch := first | omega | assumption | exact b2i_or | exact T10 | exact Or.inl rfl | exact Or.inr rfl) only [nI_1, nI_add, mOut_f, nI_clamp, Bool.false_eq_true, if_false]
  refine WP_mono (fun r σ2 h2 => ?_) h
  obtain ⟨rfl, hI2⟩ := h2
  rw [tl_s, bLa_law_795, if_pos rfl]
  exact nx σ2 hI2
theorem law_17 (hi : i + 6 ≤ E.1) (hE : E.1 ≤ 3072) (hI : Inv σ) (nx : ∀ τ, Inv τ → WP E (d + 81) mLa_law 1788 [.ref 1000, .ref 0, .ref 166, .int (nI i)] [] τ Q) : WP E (d + 81) mLa_law 800 [.ref 1000, .ref 0, .ref 166, .int (nI i)] [] σ Q := by
  rw [bLa_law_800]
  simp (disch := first | omega | assumption | exact b2i_or | exact T10 | exact Or.inl rfl | exact Or.inr rfl) only [nI_1, nI_add, mOut_f, nI_clamp, Bool.false_eq_true, if_false]
  refine WP_mono (fun r σ1 h => ?_) (P_first hI)
  obtain ⟨v, rfl, h⟩ := h
  rw [tl_s, bLa_law_819]
  simp (disch := first | omega | assumption | exact b2i_or | exact T10 | exact Or.inl rfl | exact Or.inr rfl) only [nI_1, nI_add, mOut_f, nI_clamp, Bool.false_eq_true, if_false]
  refine WP_mono (fun r σ2 h2 => ?_) h
  obtain ⟨rfl, hI2⟩ := h2
  rw [tl_s, bLa_law_838, if_pos rfl]
  exact nx σ2 hI2
theorem law_18 (hi : i + 6 ≤ E.1) (hE : E.1 ≤ 3072) (hI : Inv σ) (nx : ∀ τ, Inv τ → WP E (d + 81) mLa_law 1788 [.ref 1000, .ref 0, .ref 166, .int (nI i)] [] τ Q) : WP E (d + 81) mLa_law 843 [.ref 1000, .ref 0, .ref 166, .int (nI i)] [] σ Q := by
  rw [bLa_law_843]
  simp (disch := first | omega | assumption | exact b2i_or | exact T10 | exact Or.inl rfl | exact Or.inr rfl) only [nI_1, nI_add, mOut_f, nI_clamp, Bool.false_eq_true, if_false]
  refine WP_mono (fun r σ1 h => ?_) (P_line hI)
  obtain ⟨v, rfl, h⟩ := h
  rw [tl_s, bLa_law_857]
  simp (disch := first | omega | assumption | exact b2i_or | exact T10 | exact Or.inl rfl | exact Or.inr rfl) only [nI_1, nI_add, mOut_f, nI_clamp, Bool.false_eq_true, if_false]
  refine WP_mono (fun r σ2 h2 => ?_) h
  obtain ⟨rfl, hI2⟩ := h2
  rw [tl_s, bLa_law_871, if_pos rfl]
  exact nx σ2 hI2
theorem law_19 (hi : i + 6 ≤ E.1) (hE : E.1 ≤ 3072) (hI : Inv σ) (nx : ∀ τ, Inv τ → WP E (d + 81) mLa_law 1788 [.ref 1000, .ref 0, .ref 166, .int (nI i)] [] τ Q) : WP E (d + 81) mLa_law 876 [.ref 1000, .ref 0, .ref 166, .int (nI i)] [] σ Q := by
  rw [bLa_law_876]
  simp (disch := first | omega | assumption | exact b2i_or | exact T10 | exact Or.inl rfl | exact Or.inr rfl) only [nI_1, nI_add, mOut_f, nI_clamp, Bool.false_eq_true, if_false]
  by_cases y : E.2 (i + 3) = 0
  · rw [if_pos y, bLa_law_899, bLa_law_900]
    refine WP_mono (fun r σ1 h => ?_) (P_whose (u1 := uu) (u2 := uu) (u3 := uu) hI)
    obtain ⟨v, rfl, h⟩ := h
    rw [tl_s, bLa_law_903]
    simp (disch := first | omega | assumption | exact b2i_or | exact T10 | exact Or.inl rfl | exact Or.inr rfl) only [nI_1, nI_add, mOut_f, nI_clamp, Bool.false_eq_true, if_false]
    rw [if_pos y, bLa_law_926, bLa_law_927]
    refine WP_mono (fun r σ2 h2 => ?_) h
    obtain ⟨rfl, hI2⟩ := h2
    rw [tl_s, bLa_law_930, if_pos rfl]
    exact nx σ2 hI2
  · rw [if_neg y, bLa_law_895, bLa_law_900]
    refine WP_mono (fun r σ1 h => ?_) (P_whose (u1 := uu) (u2 := uu) (u3 := uu) hI)
    obtain ⟨v, rfl, h⟩ := h
    rw [tl_s, bLa_law_903]
    simp (disch := first | omega | assumption | exact b2i_or | exact T10 | exact Or.inl rfl | exact Or.inr rfl) only [nI_1, nI_add, mOut_f, nI_clamp, Bool.false_eq_true, if_false]
    rw [if_neg y, bLa_law_922, bLa_law_927]
    refine WP_mono (fun r σ2 h2 => ?_) h
    obtain ⟨rfl, hI2⟩ := h2
    rw [tl_s, bLa_law_930, if_pos rfl]
    exact nx σ2 hI2
theorem law_20 (hi : i + 6 ≤ E.1) (hE : E.1 ≤ 3072) (hI : Inv σ) (nx : ∀ τ, Inv τ → WP E (d + 81) mLa_law 1788 [.ref 1000, .ref 0, .ref 166, .int (nI i)] [] τ Q) : WP E (d + 81) mLa_law 935 [.ref 1000, .ref 0, .ref 166, .int (nI i)] [] σ Q := by
  rw [bLa_law_935]
  simp (disch := first | omega | assumption | exact b2i_or | exact T10 | exact Or.inl rfl | exact Or.inr rfl) only [nI_1, nI_add, mOut_f, nI_clamp, Bool.false_eq_true, if_false]
  refine WP_mono (fun r σ1 h => ?_) (P_depth (u1 := uu) (u2 := uu) hI)
  obtain ⟨v, rfl, h⟩ := h
  rw [tl_s, bLa_law_944]
  simp (disch := first | omega | assumption | exact b2i_or | exact T10 | exact Or.inl rfl | exact Or.inr rfl) only [nI_1, nI_add, mOut_f, nI_clamp, Bool.false_eq_true, if_false]
  refine WP_mono (fun r σ2 h2 => ?_) h
  obtain ⟨rfl, hI2⟩ := h2
  rw [tl_s, bLa_law_953, if_pos rfl]
  exact nx σ2 hI2
theorem law_21 (hi : i + 6 ≤ E.1) (hE : E.1 ≤ 3072) (hI : Inv σ) (nx : ∀ τ, Inv τ → WP E (d + 81) mLa_law 1788 [.ref 1000, .ref 0, .ref 166, .int (nI i)] [] τ Q) : WP E (d + 81) mLa_law 958 [.ref 1000, .ref 0, .ref 166, .int (nI i)] [] σ Q := by
  rw [bLa_law_958]
  simp (disch := first | omega | assumption | exact b2i_or | exact T10 | exact Or.inl rfl | exact Or.inr rfl) only [nI_1, nI_add, mOut_f, nI_clamp, Bool.false_eq_true, if_false]
  refine WP_mono (fun r σ1 h => ?_) (P_between (u1 := uu) (u2 := uu) hI)
  obtain ⟨v, rfl, h⟩ := h
  rw [tl_s, bLa_law_972]
  simp (disch := first | omega | assumption | exact b2i_or | exact T10 | exact Or.inl rfl | exact Or.inr rfl) only [nI_1, nI_add, mOut_f, nI_clamp, Bool.false_eq_true, if_false]
  refine WP_mono (fun r σ2 h2 => ?_) h
  obtain ⟨rfl, hI2⟩ := h2
  rw [tl_s, bLa_law_986, if_pos rfl]
  exact nx σ2 hI2
theorem law_22 (hi : i + 6 ≤ E.1) (hE : E.1 ≤ 3072) (hI : Inv σ) (nx : ∀ τ, Inv τ → WP E (d + 81) mLa_law 1788 [.ref 1000, .ref 0, .ref 166, .int (nI i)] [] τ Q) : WP E (d + 81) mLa_law 991 [.ref 1000, .ref 0, .ref 166, .int (nI i)] [] σ Q := by
  rw [bLa_law_991]
  simp (disch := first | omega | assumption | exact b2i_or | exact T10 | exact Or.inl rfl | exact Or.inr rfl) only [nI_1, nI_add, mOut_f, nI_clamp, Bool.false_eq_true, if_false]
  by_cases y : E.2 (i + 3) = 0
  · rw [if_pos y, bLa_law_1014, bLa_law_1015]
    refine WP_mono (fun r σ1 h => ?_) (P_gets hI)
    obtain ⟨v, rfl, h⟩ := h
    rw [tl_s, bLa_law_1018]
    simp (disch := first | omega | assumption | exact b2i_or | exact T10 | exact Or.inl rfl | exact Or.inr rfl) only [nI_1, nI_add, mOut_f, nI_clamp, Bool.false_eq_true, if_false]
    rw [if_pos y, bLa_law_1041, bLa_law_1042]
    refine WP_mono (fun r σ2 h2 => ?_) h
    obtain ⟨rfl, hI2⟩ := h2
    rw [tl_s, bLa_law_1045, if_pos rfl]
    exact nx σ2 hI2
  · rw [if_neg y, bLa_law_1010, bLa_law_1015]
    refine WP_mono (fun r σ1 h => ?_) (P_gets hI)
    obtain ⟨v, rfl, h⟩ := h
    rw [tl_s, bLa_law_1018]
    simp (disch := first | omega | assumption | exact b2i_or | exact T10 | exact Or.inl rfl | exact Or.inr rfl) only [nI_1, nI_add, mOut_f, nI_clamp, Bool.false_eq_true, if_false]
    rw [if_neg y, bLa_law_1037, bLa_law_1042]
    refine WP_mono (fun r σ2 h2 => ?_) h
    obtain ⟨rfl, hI2⟩ := h2
    rw [tl_s, bLa_law_1045, if_pos rfl]
    exact nx σ2 hI2
theorem law_23 (hi : i + 6 ≤ E.1) (hE : E.1 ≤ 3072) (hI : Inv σ) (nx : ∀ τ, Inv τ → WP E (d + 81) mLa_law 1788 [.ref 1000, .ref 0, .ref 166, .int (nI i)] [] τ Q) : WP E (d + 81) mLa_law 1050 [.ref 1000, .ref 0, .ref 166, .int (nI i)] [] σ Q := by
  rw [bLa_law_1050]
  simp (disch := first | omega | assumption | exact b2i_or | exact T10 | exact Or.inl rfl | exact Or.inr rfl) only [nI_1, nI_add, mOut_f, nI_clamp, Bool.false_eq_true, if_false]
  by_cases y : E.2 (i + 2) = 0
  · rw [if_pos y, bLa_law_1068, bLa_law_1069]
    refine WP_mono (fun r σ1 h => ?_) (P_shame (u1 := uu) (u2 := uu) (u3 := uu) (u4 := uu) hI)
    obtain ⟨v, rfl, h⟩ := h
    rw [tl_s, bLa_law_1072]
    simp (disch := first | omega | assumption | exact b2i_or | exact T10 | exact Or.inl rfl | exact Or.inr rfl) only [nI_1, nI_add, mOut_f, nI_clamp, Bool.false_eq_true, if_false]
    rw [if_pos y, bLa_law_1090, bLa_law_1091]
    refine WP_mono (fun r σ2 h2 => ?_) h
    obtain ⟨rfl, hI2⟩ := h2
    rw [tl_s, bLa_law_1094, if_pos rfl]
    exact nx σ2 hI2
  · rw [if_neg y, bLa_law_1064, bLa_law_1069]
    refine WP_mono (fun r σ1 h => ?_) (P_shame (u1 := uu) (u2 := uu) (u3 := uu) (u4 := uu) hI)
    obtain ⟨v, rfl, h⟩ := h
    rw [tl_s, bLa_law_1072]
    simp (disch := first | omega | assumption | exact b2i_or | exact T10 | exact Or.inl rfl | exact Or.inr rfl) only [nI_1, nI_add, mOut_f, nI_clamp, Bool.false_eq_true, if_false]
    rw [if_neg y, bLa_law_1086, bLa_law_1091]
    refine WP_mono (fun r σ2 h2 => ?_) h
    obtain ⟨rfl, hI2⟩ := h2
    rw [tl_s, bLa_law_1094, if_pos rfl]
    exact nx σ2 hI2
theorem law_24 (hi : i + 6 ≤ E.1) (hE : E.1 ≤ 3072) (hI : Inv σ) (nx : ∀ τ, Inv τ → WP E (d + 81) mLa_law 1788 [.ref 1000, .ref 0, .ref 166, .int (nI i)] [] τ Q) : WP E (d + 81) mLa_law 1099 [.ref 1000, .ref 0, .ref 166, .int (nI i)] [] σ Q := by
  rw [bLa_law_1099]
  simp (disch := first | omega | assumption | exact b2i_or | exact T10 | exact Or.inl rfl | exact Or.inr rfl) only [nI_1, nI_add, mOut_f, nI_clamp, Bool.false_eq_true, if_false]
  refine WP_mono (fun r σ1 h => ?_) (P_mean (u1 := uu) (u2 := uu) (u3 := uu) (u4 := uu) (u5 := uu) (u6 := uu) hI)
  obtain ⟨v, rfl, h⟩ := h
  rw [tl_s, bLa_law_1118]
  simp (disch := first | omega | assumption | exact b2i_or | exact T10 | exact Or.inl rfl | exact Or.inr rfl) only [nI_1, nI_add, mOut_f, nI_clamp, Bool.false_eq_true, if_false]
  refine WP_mono (fun r σ2 h2 => ?_) h
  obtain ⟨rfl, hI2⟩ := h2
  rw [tl_s, bLa_law_1137, if_pos rfl]
  exact nx σ2 hI2
theorem law_25 (hi : i + 6 ≤ E.1) (hE : E.1 ≤ 3072) (hI : Inv σ) (nx : ∀ τ, Inv τ → WP E (d + 81) mLa_law 1788 [.ref 1000, .ref 0, .ref 166, .int (nI i)] [] τ Q) : WP E (d + 81) mLa_law 1142 [.ref 1000, .ref 0, .ref 166, .int (nI i)] [] σ Q := by
  rw [bLa_law_1142]
  simp (disch := first | omega | assumption | exact b2i_or | exact T10 | exact Or.inl rfl | exact Or.inr rfl) only [nI_1, nI_add, mOut_f, nI_clamp, Bool.false_eq_true, if_false]
  refine WP_mono (fun r σ1 h => ?_) (P_net hI)
  obtain ⟨v, rfl, h⟩ := h
  rw [tl_s, bLa_law_1151]
  simp (disch := first | omega | assumption | exact b2i_or | exact T10 | exact Or.inl rfl | exact Or.inr rfl) only [nI_1, nI_add, mOut_f, nI_clamp, Bool.false_eq_true, if_false]
  refine WP_mono (fun r σ2 h2 => ?_) h
  obtain ⟨rfl, hI2⟩ := h2
  rw [tl_s, bLa_law_1160, if_pos rfl]
  exact nx σ2 hI2
theorem law_26 (hi : i + 6 ≤ E.1) (hE : E.1 ≤ 3072) (hI : Inv σ) (nx : ∀ τ, Inv τ → WP E (d + 81) mLa_law 1788 [.ref 1000, .ref 0, .ref 166, .int (nI i)] [] τ Q) : WP E (d + 81) mLa_law 1165 [.ref 1000, .ref 0, .ref 166, .int (nI i)] [] σ Q := by
  rw [bLa_law_1165]
  refine WP_mono (fun r σ1 h => ?_) (P_handOvers (u1 := uu) (u2 := uu) (u3 := uu) (u4 := uu) (u5 := uu) (u6 := uu) hI)
  obtain ⟨v, rfl, h⟩ := h
  rw [tl_s, bLa_law_1169]
  refine WP_mono (fun r σ2 h2 => ?_) h
  obtain ⟨rfl, hI2⟩ := h2
  rw [tl_s, bLa_law_1173, if_pos rfl]
  exact nx σ2 hI2
theorem law_27 (hi : i + 6 ≤ E.1) (hE : E.1 ≤ 3072) (hI : Inv σ) (nx : ∀ τ, Inv τ → WP E (d + 81) mLa_law 1788 [.ref 1000, .ref 0, .ref 166, .int (nI i)] [] τ Q) : WP E (d + 81) mLa_law 1178 [.ref 1000, .ref 0, .ref 166, .int (nI i)] [] σ Q := by
  rw [bLa_law_1178]
  refine WP_mono (fun r σ1 h => ?_) (P_ring (u1 := uu) (u2 := uu) (u3 := uu) (u4 := uu) hI)
  obtain ⟨v, rfl, h⟩ := h
  rw [tl_s, bLa_law_1182]
  refine WP_mono (fun r σ2 h2 => ?_) h
  obtain ⟨rfl, hI2⟩ := h2
  rw [tl_s, bLa_law_1186, if_pos rfl]
  exact nx σ2 hI2
theorem law_28 (hi : i + 6 ≤ E.1) (hE : E.1 ≤ 3072) (hI : Inv σ) (nx : ∀ τ, Inv τ → WP E (d + 81) mLa_law 1788 [.ref 1000, .ref 0, .ref 166, .int (nI i)] [] τ Q) : WP E (d + 81) mLa_law 1191 [.ref 1000, .ref 0, .ref 166, .int (nI i)] [] σ Q := by
  rw [bLa_law_1191]
  simp (disch := first | omega | assumption | exact b2i_or | exact T10 | exact Or.inl rfl | exact Or.inr rfl) only [nI_1, nI_add, mOut_f, nI_clamp, Bool.false_eq_true, if_false]
  refine WP_mono (fun r σ1 h => ?_) (P_ringAt hI)
  obtain ⟨v, rfl, h⟩ := h
  rw [tl_s, bLa_law_1200]
  simp (disch := first | omega | assumption | exact b2i_or | exact T10 | exact Or.inl rfl | exact Or.inr rfl) only [nI_1, nI_add, mOut_f, nI_clamp, Bool.false_eq_true, if_false]
  refine WP_mono (fun r σ2 h2 => ?_) h
  obtain ⟨rfl, hI2⟩ := h2
  rw [tl_s, bLa_law_1209, if_pos rfl]
  exact nx σ2 hI2
theorem law_29 (hi : i + 6 ≤ E.1) (hE : E.1 ≤ 3072) (hI : Inv σ) (nx : ∀ τ, Inv τ → WP E (d + 81) mLa_law 1788 [.ref 1000, .ref 0, .ref 166, .int (nI i)] [] τ Q) : WP E (d + 81) mLa_law 1214 [.ref 1000, .ref 0, .ref 166, .int (nI i)] [] σ Q := by
  rw [bLa_law_1214]
  simp (disch := first | omega | assumption | exact b2i_or | exact T10 | exact Or.inl rfl | exact Or.inr rfl) only [nI_1, nI_add, mOut_f, nI_clamp, Bool.false_eq_true, if_false]
  refine WP_mono (fun r σ1 h => ?_) (P_owing (u1 := uu) (u2 := uu) (u3 := uu) (u4 := uu) hI)
  obtain ⟨v, rfl, h⟩ := h
  rw [tl_s, bLa_law_1223]
  simp (disch := first | omega | assumption | exact b2i_or | exact T10 | exact Or.inl rfl | exact Or.inr rfl) only [nI_1, nI_add, mOut_f, nI_clamp, Bool.false_eq_true, if_false]
  refine WP_mono (fun r σ2 h2 => ?_) h
  obtain ⟨rfl, hI2⟩ := h2
  rw [tl_s, bLa_law_1232, if_pos rfl]
  exact nx σ2 hI2
theorem law_30 (hi : i + 6 ≤ E.1) (hE : E.1 ≤ 3072) (hI : Inv σ) (nx : ∀ τ, Inv τ → WP E (d + 81) mLa_law 1788 [.ref 1000, .ref 0, .ref 166, .int (nI i)] [] τ Q) : WP E (d + 81) mLa_law 1237 [.ref 1000, .ref 0, .ref 166, .int (nI i)] [] σ Q := by
  rw [bLa_law_1237]
  simp (disch := first | omega | assumption | exact b2i_or | exact T10 | exact Or.inl rfl | exact Or.inr rfl) only [nI_1, nI_add, mOut_f, nI_clamp, Bool.false_eq_true, if_false]
  refine WP_mono (fun r σ1 h => ?_) (P_saved (u1 := uu) (u2 := uu) (u3 := uu) (u4 := uu) (u5 := uu) (u6 := uu) (u7 := uu) (u8 := uu) hI)
  obtain ⟨v, rfl, h⟩ := h
  rw [tl_s, bLa_law_1256]
  simp (disch := first | omega | assumption | exact b2i_or | exact T10 | exact Or.inl rfl | exact Or.inr rfl) only [nI_1, nI_add, mOut_f, nI_clamp, Bool.false_eq_true, if_false]
  refine WP_mono (fun r σ2 h2 => ?_) h
  obtain ⟨rfl, hI2⟩ := h2
  rw [tl_s, bLa_law_1275, if_pos rfl]
  exact nx σ2 hI2
theorem law_31 (hi : i + 6 ≤ E.1) (hE : E.1 ≤ 3072) (hI : Inv σ) (nx : ∀ τ, Inv τ → WP E (d + 81) mLa_law 1788 [.ref 1000, .ref 0, .ref 166, .int (nI i)] [] τ Q) : WP E (d + 81) mLa_law 1280 [.ref 1000, .ref 0, .ref 166, .int (nI i)] [] σ Q := by
  rw [bLa_law_1280]
  refine WP_mono (fun r σ1 h => ?_) (P_faces (u1 := uu) (u2 := uu) (u3 := uu) (u4 := uu) (u5 := uu) hI)
  obtain ⟨v, rfl, h⟩ := h
  rw [tl_s, bLa_law_1284]
  refine WP_mono (fun r σ2 h2 => ?_) h
  obtain ⟨rfl, hI2⟩ := h2
  rw [tl_s, bLa_law_1288, if_pos rfl]
  exact nx σ2 hI2
theorem law_32 (hi : i + 6 ≤ E.1) (hE : E.1 ≤ 3072) (hI : Inv σ) (nx : ∀ τ, Inv τ → WP E (d + 81) mLa_law 1788 [.ref 1000, .ref 0, .ref 166, .int (nI i)] [] τ Q) : WP E (d + 81) mLa_law 1293 [.ref 1000, .ref 0, .ref 166, .int (nI i)] [] σ Q := by
  rw [bLa_law_1293]
  simp (disch := first | omega | assumption | exact b2i_or | exact T10 | exact Or.inl rfl | exact Or.inr rfl) only [nI_1, nI_add, mOut_f, nI_clamp, Bool.false_eq_true, if_false]
  refine WP_mono (fun r σ1 h => ?_) (P_keeps (u1 := uu) (u3 := uu) (u4 := uu) (u5 := uu) (u6 := uu) hI)
  obtain ⟨v, rfl, h⟩ := h
  rw [tl_s, bLa_law_1312]
  simp (disch := first | omega | assumption | exact b2i_or | exact T10 | exact Or.inl rfl | exact Or.inr rfl) only [nI_1, nI_add, mOut_f, nI_clamp, Bool.false_eq_true, if_false]
  refine WP_mono (fun r σ2 h2 => ?_) h
  obtain ⟨rfl, hI2⟩ := h2
  rw [tl_s, bLa_law_1331, if_pos rfl]
  exact nx σ2 hI2
theorem law_33 (hi : i + 6 ≤ E.1) (hE : E.1 ≤ 3072) (hI : Inv σ) (nx : ∀ τ, Inv τ → WP E (d + 81) mLa_law 1788 [.ref 1000, .ref 0, .ref 166, .int (nI i)] [] τ Q) : WP E (d + 81) mLa_law 1336 [.ref 1000, .ref 0, .ref 166, .int (nI i)] [] σ Q := by
  rw [bLa_law_1336]
  refine WP_mono (fun r σ1 h => ?_) (P_burst (u1 := uu) (u2 := uu) (u3 := uu) (u4 := uu) (u5 := uu) hI)
  obtain ⟨v, rfl, h⟩ := h
  rw [tl_s, bLa_law_1340]
  refine WP_mono (fun r σ2 h2 => ?_) h
  obtain ⟨rfl, hI2⟩ := h2
  rw [tl_s, bLa_law_1344, if_pos rfl]
  exact nx σ2 hI2
theorem law_34 (hi : i + 6 ≤ E.1) (hE : E.1 ≤ 3072) (hI : Inv σ) (nx : ∀ τ, Inv τ → WP E (d + 81) mLa_law 1788 [.ref 1000, .ref 0, .ref 166, .int (nI i)] [] τ Q) : WP E (d + 81) mLa_law 1349 [.ref 1000, .ref 0, .ref 166, .int (nI i)] [] σ Q := by
  rw [bLa_law_1349]
  simp (disch := first | omega | assumption | exact b2i_or | exact T10 | exact Or.inl rfl | exact Or.inr rfl) only [nI_1, nI_add, mOut_f, nI_clamp, Bool.false_eq_true, if_false]
  refine WP_mono (fun r σ1 h => ?_) (P_cuts (u1 := uu) (u2 := uu) (u3 := uu) (u4 := uu) (u5 := uu) hI)
  obtain ⟨v, rfl, h⟩ := h
  rw [tl_s, bLa_law_1378]
  simp (disch := first | omega | assumption | exact b2i_or | exact T10 | exact Or.inl rfl | exact Or.inr rfl) only [nI_1, nI_add, mOut_f, nI_clamp, Bool.false_eq_true, if_false]
  refine WP_mono (fun r σ2 h2 => ?_) h
  obtain ⟨rfl, hI2⟩ := h2
  rw [tl_s, bLa_law_1407, if_pos rfl]
  exact nx σ2 hI2
theorem law_35 (hi : i + 6 ≤ E.1) (hE : E.1 ≤ 3072) (hI : Inv σ) (nx : ∀ τ, Inv τ → WP E (d + 81) mLa_law 1788 [.ref 1000, .ref 0, .ref 166, .int (nI i)] [] τ Q) : WP E (d + 81) mLa_law 1412 [.ref 1000, .ref 0, .ref 166, .int (nI i)] [] σ Q := by
  rw [bLa_law_1412]
  simp (disch := first | omega | assumption | exact b2i_or | exact T10 | exact Or.inl rfl | exact Or.inr rfl) only [nI_1, nI_add, mOut_f, nI_clamp, Bool.false_eq_true, if_false]
  refine WP_mono (fun r σ1 h => ?_) (P_auction (u1 := uu) (u2 := uu) (u3 := uu) (u4 := uu) (u5 := uu) (u6 := uu) hI)
  obtain ⟨v, rfl, h⟩ := h
  rw [tl_s, bLa_law_1431]
  simp (disch := first | omega | assumption | exact b2i_or | exact T10 | exact Or.inl rfl | exact Or.inr rfl) only [nI_1, nI_add, mOut_f, nI_clamp, Bool.false_eq_true, if_false]
  refine WP_mono (fun r σ2 h2 => ?_) h
  obtain ⟨rfl, hI2⟩ := h2
  rw [tl_s, bLa_law_1450, if_pos rfl]
  exact nx σ2 hI2
theorem law_36 (hi : i + 6 ≤ E.1) (hE : E.1 ≤ 3072) (hI : Inv σ) (nx : ∀ τ, Inv τ → WP E (d + 81) mLa_law 1788 [.ref 1000, .ref 0, .ref 166, .int (nI i)] [] τ Q) : WP E (d + 81) mLa_law 1455 [.ref 1000, .ref 0, .ref 166, .int (nI i)] [] σ Q := by
  rw [bLa_law_1455]
  simp (disch := first | omega | assumption | exact b2i_or | exact T10 | exact Or.inl rfl | exact Or.inr rfl) only [nI_1, nI_add, mOut_f, nI_clamp, Bool.false_eq_true, if_false]
  refine WP_mono (fun r σ1 h => ?_) (P_make hI)
  obtain ⟨v, rfl, h⟩ := h
  rw [tl_s, bLa_law_1484]
  simp (disch := first | omega | assumption | exact b2i_or | exact T10 | exact Or.inl rfl | exact Or.inr rfl) only [nI_1, nI_add, mOut_f, nI_clamp, Bool.false_eq_true, if_false]
  refine WP_mono (fun r σ2 h2 => ?_) h
  obtain ⟨rfl, hI2⟩ := h2
  rw [tl_s, bLa_law_1513, if_pos rfl]
  exact nx σ2 hI2
theorem law_37 (hi : i + 6 ≤ E.1) (hE : E.1 ≤ 3072) (hI : Inv σ) (nx : ∀ τ, Inv τ → WP E (d + 81) mLa_law 1788 [.ref 1000, .ref 0, .ref 166, .int (nI i)] [] τ Q) : WP E (d + 81) mLa_law 1518 [.ref 1000, .ref 0, .ref 166, .int (nI i)] [] σ Q := by
  rw [bLa_law_1518]
  simp (disch := first | omega | assumption | exact b2i_or | exact T10 | exact Or.inl rfl | exact Or.inr rfl) only [nI_1, nI_add, mOut_f, nI_clamp, Bool.false_eq_true, if_false]
  refine WP_mono (fun r σ1 h => ?_) (P_letGo hI)
  obtain ⟨v, rfl, h⟩ := h
  rw [tl_s, bLa_law_1527]
  simp (disch := first | omega | assumption | exact b2i_or | exact T10 | exact Or.inl rfl | exact Or.inr rfl) only [nI_1, nI_add, mOut_f, nI_clamp, Bool.false_eq_true, if_false]
  refine WP_mono (fun r σ2 h2 => ?_) h
  obtain ⟨rfl, hI2⟩ := h2
  rw [tl_s, bLa_law_1536, if_pos rfl]
  exact nx σ2 hI2
theorem law_38 (hi : i + 6 ≤ E.1) (hE : E.1 ≤ 3072) (hI : Inv σ) (nx : ∀ τ, Inv τ → WP E (d + 81) mLa_law 1788 [.ref 1000, .ref 0, .ref 166, .int (nI i)] [] τ Q) : WP E (d + 81) mLa_law 1541 [.ref 1000, .ref 0, .ref 166, .int (nI i)] [] σ Q := by
  rw [bLa_law_1541]
  simp (disch := first | omega | assumption | exact b2i_or | exact T10 | exact Or.inl rfl | exact Or.inr rfl) only [nI_1, nI_add, mOut_f, nI_clamp, Bool.false_eq_true, if_false]
  refine WP_mono (fun r σ1 h => ?_) (P_bake (u := uu) hI)
  obtain ⟨v, rfl, h⟩ := h
  rw [tl_s, bLa_law_1550]
  simp (disch := first | omega | assumption | exact b2i_or | exact T10 | exact Or.inl rfl | exact Or.inr rfl) only [nI_1, nI_add, mOut_f, nI_clamp, Bool.false_eq_true, if_false]
  refine WP_mono (fun r σ2 h2 => ?_) h
  obtain ⟨rfl, hI2⟩ := h2
  rw [tl_s, bLa_law_1559, if_pos rfl]
  exact nx σ2 hI2
theorem law_39 (hi : i + 6 ≤ E.1) (hE : E.1 ≤ 3072) (hI : Inv σ) (nx : ∀ τ, Inv τ → WP E (d + 81) mLa_law 1788 [.ref 1000, .ref 0, .ref 166, .int (nI i)] [] τ Q) : WP E (d + 81) mLa_law 1564 [.ref 1000, .ref 0, .ref 166, .int (nI i)] [] σ Q := by
  rw [bLa_law_1564]
  simp (disch := first | omega | assumption | exact b2i_or | exact T10 | exact Or.inl rfl | exact Or.inr rfl) only [nI_1, nI_add, mOut_f, nI_clamp, Bool.false_eq_true, if_false]
  refine WP_mono (fun r σ1 h => ?_) (P_pass hI)
  obtain ⟨v, rfl, h⟩ := h
  rw [tl_s, bLa_law_1573]
  simp (disch := first | omega | assumption | exact b2i_or | exact T10 | exact Or.inl rfl | exact Or.inr rfl) only [nI_1, nI_add, mOut_f, nI_clamp, Bool.false_eq_true, if_false]
  refine WP_mono (fun r σ2 h2 => ?_) h
  obtain ⟨rfl, hI2⟩ := h2
  rw [tl_s, bLa_law_1582, if_pos rfl]
  exact nx σ2 hI2
theorem law_40 (hi : i + 6 ≤ E.1) (hE : E.1 ≤ 3072) (hI : Inv σ) (nx : ∀ τ, Inv τ → WP E (d + 81) mLa_law 1788 [.ref 1000, .ref 0, .ref 166, .int (nI i)] [] τ Q) : WP E (d + 81) mLa_law 1587 [.ref 1000, .ref 0, .ref 166, .int (nI i)] [] σ Q := by
  rw [bLa_law_1587]
  simp (disch := first | omega | assumption | exact b2i_or | exact T10 | exact Or.inl rfl | exact Or.inr rfl) only [nI_1, nI_add, mOut_f, nI_clamp, Bool.false_eq_true, if_false]
  refine WP_mono (fun r σ1 h => ?_) (P_eat hI)
  obtain ⟨v, rfl, h⟩ := h
  rw [tl_s, bLa_law_1601]
  simp (disch := first | omega | assumption | exact b2i_or | exact T10 | exact Or.inl rfl | exact Or.inr rfl) only [nI_1, nI_add, mOut_f, nI_clamp, Bool.false_eq_true, if_false]
  refine WP_mono (fun r σ2 h2 => ?_) h
  obtain ⟨rfl, hI2⟩ := h2
  rw [tl_s, bLa_law_1615, if_pos rfl]
  exact nx σ2 hI2
theorem law_41 (hi : i + 6 ≤ E.1) (hE : E.1 ≤ 3072) (hI : Inv σ) (nx : ∀ τ, Inv τ → WP E (d + 81) mLa_law 1788 [.ref 1000, .ref 0, .ref 166, .int (nI i)] [] τ Q) : WP E (d + 81) mLa_law 1620 [.ref 1000, .ref 0, .ref 166, .int (nI i)] [] σ Q := by
  rw [bLa_law_1620]
  simp (disch := first | omega | assumption | exact b2i_or | exact T10 | exact Or.inl rfl | exact Or.inr rfl) only [nI_1, nI_add, mOut_f, nI_clamp, Bool.false_eq_true, if_false]
  refine WP_mono (fun r σ1 h => ?_) (P_pay hI)
  obtain ⟨v, rfl, h⟩ := h
  rw [tl_s, bLa_law_1639]
  simp (disch := first | omega | assumption | exact b2i_or | exact T10 | exact Or.inl rfl | exact Or.inr rfl) only [nI_1, nI_add, mOut_f, nI_clamp, Bool.false_eq_true, if_false]
  refine WP_mono (fun r σ2 h2 => ?_) h
  obtain ⟨rfl, hI2⟩ := h2
  rw [tl_s, bLa_law_1658, if_pos rfl]
  exact nx σ2 hI2
theorem law_42 (hi : i + 6 ≤ E.1) (hE : E.1 ≤ 3072) (hI : Inv σ) (nx : ∀ τ, Inv τ → WP E (d + 81) mLa_law 1788 [.ref 1000, .ref 0, .ref 166, .int (nI i)] [] τ Q) : WP E (d + 81) mLa_law 1663 [.ref 1000, .ref 0, .ref 166, .int (nI i)] [] σ Q := by
  rw [bLa_law_1663]
  simp (disch := first | omega | assumption | exact b2i_or | exact T10 | exact Or.inl rfl | exact Or.inr rfl) only [nI_1, nI_add, mOut_f, nI_clamp, Bool.false_eq_true, if_false]
  refine WP_mono (fun r σ1 h => ?_) (P_live hI)
  obtain ⟨v, rfl, h⟩ := h
  rw [tl_s, bLa_law_1672]
  simp (disch := first | omega | assumption | exact b2i_or | exact T10 | exact Or.inl rfl | exact Or.inr rfl) only [nI_1, nI_add, mOut_f, nI_clamp, Bool.false_eq_true, if_false]
  refine WP_mono (fun r σ2 h2 => ?_) h
  obtain ⟨rfl, hI2⟩ := h2
  rw [tl_s, bLa_law_1681, if_pos rfl]
  exact nx σ2 hI2
theorem law_43 (hi : i + 6 ≤ E.1) (hE : E.1 ≤ 3072) (hI : Inv σ) (nx : ∀ τ, Inv τ → WP E (d + 81) mLa_law 1788 [.ref 1000, .ref 0, .ref 166, .int (nI i)] [] τ Q) : WP E (d + 81) mLa_law 1686 [.ref 1000, .ref 0, .ref 166, .int (nI i)] [] σ Q := by
  rw [bLa_law_1686]
  simp (disch := first | omega | assumption | exact b2i_or | exact T10 | exact Or.inl rfl | exact Or.inr rfl) only [nI_1, nI_add, mOut_f, nI_clamp, Bool.false_eq_true, if_false]
  refine WP_mono (fun r σ1 h => ?_) (P_lived hI)
  obtain ⟨v, rfl, h⟩ := h
  rw [tl_s, bLa_law_1695]
  simp (disch := first | omega | assumption | exact b2i_or | exact T10 | exact Or.inl rfl | exact Or.inr rfl) only [nI_1, nI_add, mOut_f, nI_clamp, Bool.false_eq_true, if_false]
  refine WP_mono (fun r σ2 h2 => ?_) h
  obtain ⟨rfl, hI2⟩ := h2
  rw [tl_s, bLa_law_1704, if_pos rfl]
  exact nx σ2 hI2
theorem law_44 (hi : i + 6 ≤ E.1) (hE : E.1 ≤ 3072) (hI : Inv σ) (nx : ∀ τ, Inv τ → WP E (d + 81) mLa_law 1788 [.ref 1000, .ref 0, .ref 166, .int (nI i)] [] τ Q) : WP E (d + 81) mLa_law 1709 [.ref 1000, .ref 0, .ref 166, .int (nI i)] [] σ Q := by
  rw [bLa_law_1709]
  simp (disch := first | omega | assumption | exact b2i_or | exact T10 | exact Or.inl rfl | exact Or.inr rfl) only [nI_1, nI_add, mOut_f, nI_clamp, Bool.false_eq_true, if_false]
  refine WP_mono (fun r σ1 h => ?_) (P_odds (u1 := uu) (u2 := uu) (u3 := uu) (u4 := uu) (u5 := uu) hI)
  obtain ⟨v, rfl, h⟩ := h
  rw [tl_s, bLa_law_1733]
  simp (disch := first | omega | assumption | exact b2i_or | exact T10 | exact Or.inl rfl | exact Or.inr rfl) only [nI_1, nI_add, mOut_f, nI_clamp, Bool.false_eq_true, if_false]
  refine WP_mono (fun r σ2 h2 => ?_) h
  obtain ⟨rfl, hI2⟩ := h2
  rw [tl_s, bLa_law_1757, if_pos rfl]
  exact nx σ2 hI2
theorem law_45 (hi : i + 6 ≤ E.1) (hE : E.1 ≤ 3072) (hI : Inv σ) (nx : ∀ τ, Inv τ → WP E (d + 81) mLa_law 1788 [.ref 1000, .ref 0, .ref 166, .int (nI i)] [] τ Q) : WP E (d + 81) mLa_law 1762 [.ref 1000, .ref 0, .ref 166, .int (nI i)] [] σ Q := by
  rw [bLa_law_1762]
  refine WP_mono (fun r σ1 h => ?_) (P_mark hI)
  obtain ⟨v, rfl, h⟩ := h
  rw [tl_s, bLa_law_1766]
  refine WP_mono (fun r σ2 h2 => ?_) h
  obtain ⟨rfl, hI2⟩ := h2
  rw [tl_s, bLa_law_1770, if_pos rfl]
  exact nx σ2 hI2
theorem law_46 (hi : i + 6 ≤ E.1) (hE : E.1 ≤ 3072) (hI : Inv σ) (nx : ∀ τ, Inv τ → WP E (d + 81) mLa_law 1788 [.ref 1000, .ref 0, .ref 166, .int (nI i)] [] τ Q) : WP E (d + 81) mLa_law 1775 [.ref 1000, .ref 0, .ref 166, .int (nI i)] [] σ Q := by
  rw [bLa_law_1775]
  refine WP_mono (fun r σ1 h => ?_) (P_back hI)
  obtain ⟨v, rfl, h⟩ := h
  rw [tl_s, bLa_law_1779]
  refine WP_mono (fun r σ2 h2 => ?_) h
  obtain ⟨rfl, hI2⟩ := h2
  rw [tl_s, bLa_law_1783, if_pos rfl]
  exact nx σ2 hI2
end LW
theorem neg6 : ∀ e : Fin 6, (nI e.val - nI 6).toInt < 0 := by decide
theorem law_end {e i : Nat} (he : e ≤ 3072) (hi : i ≤ e) : (nI e - nI 6 < nI i) ↔ e < i + 6 := by
  by_cases z : e < 6
  · refine ⟨fun _ => by omega, fun _ => Int32.lt_iff_toInt_lt.mpr ?_⟩
    have h1 := neg6 ⟨e, z⟩
    have h2 : (nI i).toInt = i := nI_toInt (by omega)
    have h1' : (nI e - nI 6).toInt < 0 := h1
    omega
  · rw [pk_sub (by omega)]
    constructor
    · intro h
      by_cases y : e < i + 6
      · exact y
      · exact absurd h (nI_nlt (by omega) (by omega))
    · intro h
      exact nI_lt (by omega) (by omega)
theorem law_loop {E : mEn} {d : Nat} {Q : mPost} (hE : E.1 ≤ 3072) (hQ : ∀ τ, Q (some (.int 1)) τ) : ∀ (f i : Nat) (σ : mSt), E.1 ≤ i + f → i ≤ E.1 → Inv σ → WP E (d + 81) mLa_law 18 [.ref 1000, .ref 0, .ref 166, .int (nI i)] [] σ Q := by
  intro f
  induction f with
  | zero =>
    intro i σ hf hi hI
    rw [bLa_law_18, if_pos ((law_end hE hi).mpr (by omega)), bLa_law_1794]
    exact hQ σ
  | succ f ih =>
    intro i σ hf hi hI
    rw [bLa_law_18]
    by_cases z : E.1 < i + 6
    · rw [if_pos ((law_end hE hi).mpr z), bLa_law_1794]
      exact hQ σ
    rw [if_neg (fun g => z ((law_end hE hi).mp g)), bLa_law_27, mOut_f (by omega) (by omega), if_neg (by decide), nI_clamp (by omega)]
    have nx : ∀ τ, Inv τ → WP E (d + 81) mLa_law 1788 [.ref 1000, .ref 0, .ref 166, .int (nI i)] [] τ Q := fun τ hI2 => by
      rw [bLa_law_1788, nI_add]
      exact ih (i + 6) τ (by omega) (by omega) hI2
    have hi6 : i + 6 ≤ E.1 := by omega
    rcases sw_cs (E.2 i &&& nI 63) 0 46 with ⟨b, -, hb, e⟩ | hne
    · rw [e]
      obtain rfl | rfl | rfl | rfl | rfl | rfl | rfl | rfl | rfl | rfl | rfl | rfl | rfl | rfl | rfl | rfl | rfl | rfl | rfl | rfl | rfl | rfl | rfl | rfl | rfl | rfl | rfl | rfl | rfl | rfl | rfl | rfl | rfl | rfl | rfl | rfl | rfl | rfl | rfl | rfl | rfl | rfl | rfl | rfl | rfl | rfl | rfl : b = 0 ∨ b = 1 ∨ b = 2 ∨ b = 3 ∨ b = 4 ∨ b = 5 ∨ b = 6 ∨ b = 7 ∨ b = 8 ∨ b = 9 ∨ b = 10 ∨ b = 11 ∨ b = 12 ∨ b = 13 ∨ b = 14 ∨ b = 15 ∨ b = 16 ∨ b = 17 ∨ b = 18 ∨ b = 19 ∨ b = 20 ∨ b = 21 ∨ b = 22 ∨ b = 23 ∨ b = 24 ∨ b = 25 ∨ b = 26 ∨ b = 27 ∨ b = 28 ∨ b = 29 ∨ b = 30 ∨ b = 31 ∨ b = 32 ∨ b = 33 ∨ b = 34 ∨ b = 35 ∨ b = 36 ∨ b = 37 ∨ b = 38 ∨ b = 39 ∨ b = 40 ∨ b = 41 ∨ b = 42 ∨ b = 43 ∨ b = 44 ∨ b = 45 ∨ b = 46 := by omega
      · rw [bLa_law_27_s0]; exact law_0 hi6 hE hI nx
      · rw [bLa_law_27_s1]; exact law_1 hi6 hE hI nx
      · rw [bLa_law_27_s2]; exact law_2 hi6 hE hI nx
      · rw [bLa_law_27_s3]; exact law_3 hi6 hE hI nx
      · rw [bLa_law_27_s4]; exact law_4 hi6 hE hI nx
      · rw [bLa_law_27_s5]; exact law_5 hi6 hE hI nx
      · rw [bLa_law_27_s6]; exact law_6 hi6 hE hI nx
      · rw [bLa_law_27_s7]; exact law_7 hi6 hE hI nx
      · rw [bLa_law_27_s8]; exact law_8 hi6 hE hI nx
      · rw [bLa_law_27_s9]; exact law_9 hi6 hE hI nx
      · rw [bLa_law_27_s10]; exact law_10 hi6 hE hI nx
      · rw [bLa_law_27_s11]; exact law_11 hi6 hE hI nx
      · rw [bLa_law_27_s12]; exact law_12 hi6 hE hI nx
      · rw [bLa_law_27_s13]; exact law_13 hi6 hE hI nx
      · rw [bLa_law_27_s14]; exact law_14 hi6 hE hI nx
      · rw [bLa_law_27_s15]; exact law_15 hi6 hE hI nx
      · rw [bLa_law_27_s16]; exact law_16 hi6 hE hI nx
      · rw [bLa_law_27_s17]; exact law_17 hi6 hE hI nx
      · rw [bLa_law_27_s18]; exact law_18 hi6 hE hI nx
      · rw [bLa_law_27_s19]; exact law_19 hi6 hE hI nx
      · rw [bLa_law_27_s20]; exact law_20 hi6 hE hI nx
      · rw [bLa_law_27_s21]; exact law_21 hi6 hE hI nx
      · rw [bLa_law_27_s22]; exact law_22 hi6 hE hI nx
      · rw [bLa_law_27_s23]; exact law_23 hi6 hE hI nx
      · rw [bLa_law_27_s24]; exact law_24 hi6 hE hI nx
      · rw [bLa_law_27_s25]; exact law_25 hi6 hE hI nx
      · rw [bLa_law_27_s26]; exact law_26 hi6 hE hI nx
      · rw [bLa_law_27_s27]; exact law_27 hi6 hE hI nx
      · rw [bLa_law_27_s28]; exact law_28 hi6 hE hI nx
      · rw [bLa_law_27_s29]; exact law_29 hi6 hE hI nx
      · rw [bLa_law_27_s30]; exact law_30 hi6 hE hI nx
      · rw [bLa_law_27_s31]; exact law_31 hi6 hE hI nx
      · rw [bLa_law_27_s32]; exact law_32 hi6 hE hI nx
      · rw [bLa_law_27_s33]; exact law_33 hi6 hE hI nx
      · rw [bLa_law_27_s34]; exact law_34 hi6 hE hI nx
      · rw [bLa_law_27_s35]; exact law_35 hi6 hE hI nx
      · rw [bLa_law_27_s36]; exact law_36 hi6 hE hI nx
      · rw [bLa_law_27_s37]; exact law_37 hi6 hE hI nx
      · rw [bLa_law_27_s38]; exact law_38 hi6 hE hI nx
      · rw [bLa_law_27_s39]; exact law_39 hi6 hE hI nx
      · rw [bLa_law_27_s40]; exact law_40 hi6 hE hI nx
      · rw [bLa_law_27_s41]; exact law_41 hi6 hE hI nx
      · rw [bLa_law_27_s42]; exact law_42 hi6 hE hI nx
      · rw [bLa_law_27_s43]; exact law_43 hi6 hE hI nx
      · rw [bLa_law_27_s44]; exact law_44 hi6 hE hI nx
      · rw [bLa_law_27_s45]; exact law_45 hi6 hE hI nx
      · rw [bLa_law_27_s46]; exact law_46 hi6 hE hI nx
    · rw [bLa_law_27_sD (fun k h1 h2 => hne k h1 h2)]
      exact nx σ hI
theorem law_go {E : mEn} {d : Nat} {Q : mPost} {σ : mSt} {u : Value} (hE : E.1 ≤ 3072) (hI : Inv σ) (hQ : ∀ τ, Q (some (.int 1)) τ) : WP E (d + 81) mLa_law 16 [.ref 1000, .ref 0, .ref 166, u] [] σ Q := by
  rw [bLa_law_16]
  exact law_loop hE hQ E.1 0 σ (by omega) (by omega) hI
