/-! the reference's words -/
theorem Mo_isPerson {E : mEn} {d : Nat} {Q : mPost} {τ : mSt} {T : Nat → Int32} {n q : Nat} (h : MOk τ T n q) : WP E (d + 1) mMo_isPerson 0 [.ref 166] [] τ Q = Q (some (.int (b2i (isW T n q 0 = true)))) τ := by
  rw [bMo_isPerson_0, Mo_spelled, tl_s, bMo_isPerson_16, Mo_isWord h (k := 0) (by omega) (by decide), tl_s, bMo_isPerson_19 b2i_or]
theorem Mo_isPurse {E : mEn} {d : Nat} {Q : mPost} {τ : mSt} {T : Nat → Int32} {n q : Nat} (h : MOk τ T n q) : WP E (d + 1) mMo_isPurse 0 [.ref 166] [] τ Q = Q (some (.int (b2i (isW T n q 1 = true)))) τ := by
  rw [bMo_isPurse_0, Mo_spelled, tl_s, bMo_isPurse_15, Mo_isWord h (k := 1) (by omega) (by decide), tl_s, bMo_isPurse_18 b2i_or]
theorem Mo_isOven {E : mEn} {d : Nat} {Q : mPost} {τ : mSt} {T : Nat → Int32} {n q : Nat} (h : MOk τ T n q) : WP E (d + 1) mMo_isOven 0 [.ref 166] [] τ Q = Q (some (.int (b2i (isW T n q 2 = true)))) τ := by
  rw [bMo_isOven_0, Mo_spelled, tl_s, bMo_isOven_14, Mo_isWord h (k := 2) (by omega) (by decide), tl_s, bMo_isOven_17 b2i_or]
theorem Mo_isRain {E : mEn} {d : Nat} {Q : mPost} {τ : mSt} {T : Nat → Int32} {n q : Nat} (h : MOk τ T n q) : WP E (d + 1) mMo_isRain 0 [.ref 166] [] τ Q = Q (some (.int (b2i (isW T n q 3 = true)))) τ := by
  rw [bMo_isRain_0, Mo_spelled, tl_s, bMo_isRain_14, Mo_isWord h (k := 3) (by omega) (by decide), tl_s, bMo_isRain_17 b2i_or]
theorem Mo_isLoaf {E : mEn} {d : Nat} {Q : mPost} {τ : mSt} {T : Nat → Int32} {n q : Nat} (h : MOk τ T n q) : WP E (d + 1) mMo_isLoaf 0 [.ref 166] [] τ Q = Q (some (.int (b2i (isW T n q 4 = true)))) τ := by
  rw [bMo_isLoaf_0, Mo_spelled, tl_s, bMo_isLoaf_14, Mo_isWord h (k := 4) (by omega) (by decide), tl_s, bMo_isLoaf_17 b2i_or]
theorem Mo_isBy {E : mEn} {d : Nat} {Q : mPost} {τ : mSt} {T : Nat → Int32} {n q : Nat} (h : MOk τ T n q) : WP E (d + 1) mMo_isBy 0 [.ref 166] [] τ Q = Q (some (.int (b2i (isW T n q 5 = true)))) τ := by
  rw [bMo_isBy_0, Mo_spelled, tl_s, bMo_isBy_12, Mo_isWord h (k := 5) (by omega) (by decide), tl_s, bMo_isBy_15 b2i_or]
theorem Mo_isInWord {E : mEn} {d : Nat} {Q : mPost} {τ : mSt} {T : Nat → Int32} {n q : Nat} (h : MOk τ T n q) : WP E (d + 1) mMo_isInWord 0 [.ref 166] [] τ Q = Q (some (.int (b2i (isW T n q 6 = true)))) τ := by
  rw [bMo_isInWord_0, Mo_spelled, tl_s, bMo_isInWord_12, Mo_isWord h (k := 6) (by omega) (by decide), tl_s, bMo_isInWord_15 b2i_or]
theorem Mo_isOn {E : mEn} {d : Nat} {Q : mPost} {τ : mSt} {T : Nat → Int32} {n q : Nat} (h : MOk τ T n q) : WP E (d + 1) mMo_isOn 0 [.ref 166] [] τ Q = Q (some (.int (b2i (isW T n q 7 = true)))) τ := by
  rw [bMo_isOn_0, Mo_spelled, tl_s, bMo_isOn_12, Mo_isWord h (k := 7) (by omega) (by decide), tl_s, bMo_isOn_15 b2i_or]
theorem Mo_isSlices {E : mEn} {d : Nat} {Q : mPost} {τ : mSt} {T : Nat → Int32} {n q : Nat} (h : MOk τ T n q) : WP E (d + 1) mMo_isSlices 0 [.ref 166] [] τ Q = Q (some (.int (b2i (isW T n q 8 = true)))) τ := by
  rw [bMo_isSlices_0, Mo_spelled, tl_s, bMo_isSlices_16, Mo_isWord h (k := 8) (by omega) (by decide), tl_s, bMo_isSlices_19 b2i_or]
theorem Mo_isFlour {E : mEn} {d : Nat} {Q : mPost} {τ : mSt} {T : Nat → Int32} {n q : Nat} (h : MOk τ T n q) : WP E (d + 1) mMo_isFlour 0 [.ref 166] [] τ Q = Q (some (.int (b2i (isW T n q 9 = true)))) τ := by
  rw [bMo_isFlour_0, Mo_spelled, tl_s, bMo_isFlour_15, Mo_isWord h (k := 9) (by omega) (by decide), tl_s, bMo_isFlour_18 b2i_or]
theorem Mo_isPromise {E : mEn} {d : Nat} {Q : mPost} {τ : mSt} {T : Nat → Int32} {n q : Nat} (h : MOk τ T n q) : WP E (d + 1) mMo_isPromise 0 [.ref 166] [] τ Q = Q (some (.int (b2i (isW T n q 10 = true)))) τ := by
  rw [bMo_isPromise_0, Mo_spelled, tl_s, bMo_isPromise_16, Mo_isWord h (k := 10) (by omega) (by decide), tl_s, bMo_isPromise_27 b2i_or]
theorem Mo_isOf {E : mEn} {d : Nat} {Q : mPost} {τ : mSt} {T : Nat → Int32} {n q : Nat} (h : MOk τ T n q) : WP E (d + 1) mMo_isOf 0 [.ref 166] [] τ Q = Q (some (.int (b2i (isW T n q 11 = true)))) τ := by
  rw [bMo_isOf_0, Mo_spelled, tl_s, bMo_isOf_12, Mo_isWord h (k := 11) (by omega) (by decide), tl_s, bMo_isOf_15 b2i_or]
theorem Mo_isFrom {E : mEn} {d : Nat} {Q : mPost} {τ : mSt} {T : Nat → Int32} {n q : Nat} (h : MOk τ T n q) : WP E (d + 1) mMo_isFrom 0 [.ref 166] [] τ Q = Q (some (.int (b2i (isW T n q 12 = true)))) τ := by
  rw [bMo_isFrom_0, Mo_spelled, tl_s, bMo_isFrom_14, Mo_isWord h (k := 12) (by omega) (by decide), tl_s, bMo_isFrom_17 b2i_or]
theorem Mo_isTo {E : mEn} {d : Nat} {Q : mPost} {τ : mSt} {T : Nat → Int32} {n q : Nat} (h : MOk τ T n q) : WP E (d + 1) mMo_isTo 0 [.ref 166] [] τ Q = Q (some (.int (b2i (isW T n q 13 = true)))) τ := by
  rw [bMo_isTo_0, Mo_spelled, tl_s, bMo_isTo_12, Mo_isWord h (k := 13) (by omega) (by decide), tl_s, bMo_isTo_15 b2i_or]
theorem Mo_isFor {E : mEn} {d : Nat} {Q : mPost} {τ : mSt} {T : Nat → Int32} {n q : Nat} (h : MOk τ T n q) : WP E (d + 1) mMo_isFor 0 [.ref 166] [] τ Q = Q (some (.int (b2i (isW T n q 14 = true)))) τ := by
  rw [bMo_isFor_0, Mo_spelled, tl_s, bMo_isFor_13, Mo_isWord h (k := 14) (by omega) (by decide), tl_s, bMo_isFor_16 b2i_or]
theorem Mo_isEnd {E : mEn} {d : Nat} {Q : mPost} {τ : mSt} {T : Nat → Int32} {n q : Nat} (h : MOk τ T n q) : WP E (d + 1) mMo_isEnd 0 [.ref 166] [] τ Q = Q (some (.int (b2i (isW T n q 26 = true)))) τ := by
  rw [bMo_isEnd_0, Mo_spelled, tl_s, bMo_isEnd_13, Mo_isWord h (k := 26) (by omega) (by decide), tl_s, bMo_isEnd_16 b2i_or]
def sWd (T : Nat → Int32) (n q : Nat) : Int32 := if isW T n q 10 = true then nI 0 else if isW T n q 19 = true then nI 1 else if isW T n q 15 = true then nI 2 else if isW T n q 16 = true then nI 3 else if isW T n q 17 = true then nI 4 else if isW T n q 18 = true then nI 5 else if isW T n q 20 = true then nI 6 else if isW T n q 25 = true then nI 7 else if isW T n q 27 = true then nI 8 else -1
def tWd (T : Nat → Int32) (n q : Nat) : Int32 := if isW T n q 21 = true then nI 0 else if isW T n q 22 = true then nI 1 else if isW T n q 23 = true then nI 2 else if isW T n q 24 = true then nI 3 else -1
theorem Mo_stepWord {E : mEn} {d : Nat} {Q : mPost} {τ : mSt} {T : Nat → Int32} {n q : Nat} (h : MOk τ T n q) : WP E (d + 2) mMo_stepWord 0 [.ref 166] [] τ Q = Q (some (.int (sWd T n q))) τ := by
  unfold sWd
  rw [bMo_stepWord_0, Mo_isPromise h, tl_s, bMo_stepWord_4]
  by_cases z0 : isW T n q 10 = true
  · rw [b2i_t z0, if_neg i10, bMo_stepWord_7, if_pos z0]; rfl
  rw [b2i_f z0, if_pos rfl, if_neg z0]
  rw [bMo_stepWord_9, Mo_spelled, tl_s, bMo_stepWord_24, Mo_isWord h (k := 19) (by omega) (by decide), tl_s, bMo_stepWord_27]
  by_cases z1 : isW T n q 19 = true
  · rw [b2i_t z1, if_neg i10, bMo_stepWord_30, if_pos z1]; rfl
  rw [b2i_f z1, if_pos rfl, if_neg z1]
  rw [bMo_stepWord_32, Mo_spelled, tl_s, bMo_stepWord_46, Mo_isWord h (k := 15) (by omega) (by decide), tl_s, bMo_stepWord_49]
  by_cases z2 : isW T n q 15 = true
  · rw [b2i_t z2, if_neg i10, bMo_stepWord_52, if_pos z2]
  rw [b2i_f z2, if_pos rfl, if_neg z2]
  rw [bMo_stepWord_54, Mo_spelled, tl_s, bMo_stepWord_68, Mo_isWord h (k := 16) (by omega) (by decide), tl_s, bMo_stepWord_71]
  by_cases z3 : isW T n q 16 = true
  · rw [b2i_t z3, if_neg i10, bMo_stepWord_74, if_pos z3]
  rw [b2i_f z3, if_pos rfl, if_neg z3]
  rw [bMo_stepWord_76, Mo_spelled, tl_s, bMo_stepWord_89, Mo_isWord h (k := 17) (by omega) (by decide), tl_s, bMo_stepWord_92]
  by_cases z4 : isW T n q 17 = true
  · rw [b2i_t z4, if_neg i10, bMo_stepWord_95, if_pos z4]
  rw [b2i_f z4, if_pos rfl, if_neg z4]
  rw [bMo_stepWord_97, Mo_spelled, tl_s, bMo_stepWord_110, Mo_isWord h (k := 18) (by omega) (by decide), tl_s, bMo_stepWord_113]
  by_cases z5 : isW T n q 18 = true
  · rw [b2i_t z5, if_neg i10, bMo_stepWord_116, if_pos z5]
  rw [b2i_f z5, if_pos rfl, if_neg z5]
  rw [bMo_stepWord_118, Mo_spelled, tl_s, bMo_stepWord_132, Mo_isWord h (k := 20) (by omega) (by decide), tl_s, bMo_stepWord_135]
  by_cases z6 : isW T n q 20 = true
  · rw [b2i_t z6, if_neg i10, bMo_stepWord_138, if_pos z6]
  rw [b2i_f z6, if_pos rfl, if_neg z6]
  rw [bMo_stepWord_141, Mo_spelled, tl_s, bMo_stepWord_155, Mo_isWord h (k := 25) (by omega) (by decide), tl_s, bMo_stepWord_158]
  by_cases z7 : isW T n q 25 = true
  · rw [b2i_t z7, if_neg i10, bMo_stepWord_161, if_pos z7]
  rw [b2i_f z7, if_pos rfl, if_neg z7]
  rw [bMo_stepWord_164, Mo_spelled, tl_s, bMo_stepWord_178, Mo_isWord h (k := 27) (by omega) (by decide), tl_s, bMo_stepWord_181]
  by_cases z8 : isW T n q 27 = true
  · rw [b2i_t z8, if_neg i10, bMo_stepWord_184, bMo_stepWord_190, if_pos z8]
  · rw [b2i_f z8, if_pos rfl, bMo_stepWord_189, bMo_stepWord_190, if_neg z8]
theorem Mo_testWord {E : mEn} {d : Nat} {Q : mPost} {τ : mSt} {T : Nat → Int32} {n q : Nat} (h : MOk τ T n q) : WP E (d + 1) mMo_testWord 0 [.ref 166] [] τ Q = Q (some (.int (tWd T n q))) τ := by
  unfold tWd
  rw [bMo_testWord_0, Mo_spelled, tl_s, bMo_testWord_13, Mo_isWord h (k := 21) (by omega) (by decide), tl_s, bMo_testWord_16]
  by_cases z0 : isW T n q 21 = true
  · rw [b2i_t z0, if_neg i10, bMo_testWord_19, if_pos z0]; rfl
  rw [b2i_f z0, if_pos rfl, if_neg z0]
  rw [bMo_testWord_21, Mo_spelled, tl_s, bMo_testWord_34, Mo_isWord h (k := 22) (by omega) (by decide), tl_s, bMo_testWord_37]
  by_cases z1 : isW T n q 22 = true
  · rw [b2i_t z1, if_neg i10, bMo_testWord_40, if_pos z1]; rfl
  rw [b2i_f z1, if_pos rfl, if_neg z1]
  rw [bMo_testWord_42, Mo_spelled, tl_s, bMo_testWord_57, Mo_isWord h (k := 23) (by omega) (by decide), tl_s, bMo_testWord_60]
  by_cases z2 : isW T n q 23 = true
  · rw [b2i_t z2, if_neg i10, bMo_testWord_63, if_pos z2]
  rw [b2i_f z2, if_pos rfl, if_neg z2]
  rw [bMo_testWord_65, Mo_spelled, tl_s, bMo_testWord_78, Mo_isWord h (k := 24) (by omega) (by decide), tl_s, bMo_testWord_81]
  by_cases z3 : isW T n q 24 = true
  · rw [b2i_t z3, if_neg i10, bMo_testWord_84, bMo_testWord_89, if_pos z3]
  · rw [b2i_f z3, if_pos rfl, bMo_testWord_88, bMo_testWord_89, if_neg z3]
theorem sWd_ge {T : Nat → Int32} {n q : Nat} : 0 ≤ sWd T n q ↔ ∃ k, k < 28 ∧ k ∈ [10, 19, 15, 16, 17, 18, 20, 25, 27] ∧ isW T n q k = true := by
  unfold sWd
  by_cases z0 : isW T n q 10 = true
  · rw [if_pos z0]; exact ⟨fun _ => ⟨10, by omega, by decide, z0⟩, fun _ => by decide⟩
  rw [if_neg z0]
  by_cases z1 : isW T n q 19 = true
  · rw [if_pos z1]; exact ⟨fun _ => ⟨19, by omega, by decide, z1⟩, fun _ => by decide⟩
  rw [if_neg z1]
  by_cases z2 : isW T n q 15 = true
  · rw [if_pos z2]; exact ⟨fun _ => ⟨15, by omega, by decide, z2⟩, fun _ => by decide⟩
  rw [if_neg z2]
  by_cases z3 : isW T n q 16 = true
  · rw [if_pos z3]; exact ⟨fun _ => ⟨16, by omega, by decide, z3⟩, fun _ => by decide⟩
  rw [if_neg z3]
  by_cases z4 : isW T n q 17 = true
  · rw [if_pos z4]; exact ⟨fun _ => ⟨17, by omega, by decide, z4⟩, fun _ => by decide⟩
  rw [if_neg z4]
  by_cases z5 : isW T n q 18 = true
  · rw [if_pos z5]; exact ⟨fun _ => ⟨18, by omega, by decide, z5⟩, fun _ => by decide⟩
  rw [if_neg z5]
  by_cases z6 : isW T n q 20 = true
  · rw [if_pos z6]; exact ⟨fun _ => ⟨20, by omega, by decide, z6⟩, fun _ => by decide⟩
  rw [if_neg z6]
  by_cases z7 : isW T n q 25 = true
  · rw [if_pos z7]; exact ⟨fun _ => ⟨25, by omega, by decide, z7⟩, fun _ => by decide⟩
  rw [if_neg z7]
  by_cases z8 : isW T n q 27 = true
  · rw [if_pos z8]; exact ⟨fun _ => ⟨27, by omega, by decide, z8⟩, fun _ => by decide⟩
  rw [if_neg z8]
  refine ⟨fun g => absurd g (by decide), fun ⟨k, _, hm, hk⟩ => ?_⟩
  simp only [List.mem_cons, List.not_mem_nil, or_false] at hm
  rcases hm with rfl | rfl | rfl | rfl | rfl | rfl | rfl | rfl | rfl
  · exact absurd hk z0
  · exact absurd hk z1
  · exact absurd hk z2
  · exact absurd hk z3
  · exact absurd hk z4
  · exact absurd hk z5
  · exact absurd hk z6
  · exact absurd hk z7
  · exact absurd hk z8
theorem tWd_ge {T : Nat → Int32} {n q : Nat} : 0 ≤ tWd T n q ↔ ∃ k, k < 28 ∧ k ∈ [21, 22, 23, 24] ∧ isW T n q k = true := by
  unfold tWd
  by_cases z0 : isW T n q 21 = true
  · rw [if_pos z0]; exact ⟨fun _ => ⟨21, by omega, by decide, z0⟩, fun _ => by decide⟩
  rw [if_neg z0]
  by_cases z1 : isW T n q 22 = true
  · rw [if_pos z1]; exact ⟨fun _ => ⟨22, by omega, by decide, z1⟩, fun _ => by decide⟩
  rw [if_neg z1]
  by_cases z2 : isW T n q 23 = true
  · rw [if_pos z2]; exact ⟨fun _ => ⟨23, by omega, by decide, z2⟩, fun _ => by decide⟩
  rw [if_neg z2]
  by_cases z3 : isW T n q 24 = true
  · rw [if_pos z3]; exact ⟨fun _ => ⟨24, by omega, by decide, z3⟩, fun _ => by decide⟩
  rw [if_neg z3]
  refine ⟨fun g => absurd g (by decide), fun ⟨k, _, hm, hk⟩ => ?_⟩
  simp only [List.mem_cons, List.not_mem_nil, or_false] at hm
  rcases hm with rfl | rfl | rfl | rfl
  · exact absurd hk z0
  · exact absurd hk z1
  · exact absurd hk z2
  · exact absurd hk z3
theorem Mo_isKept {E : mEn} {d : Nat} {Q : mPost} {τ : mSt} {T : Nat → Int32} {n q : Nat} (h : MOk τ T n q) [Decidable (∃ k, k < 28 ∧ isW T n q k = true)] : WP E (d + 3) mMo_isKept 0 [.ref 166] [] τ Q = Q (some (.int (b2i (∃ k, k < 28 ∧ isW T n q k = true)))) τ := by
  rw [bMo_isKept_0, Mo_isPerson h, tl_s, bMo_isKept_4]
  by_cases z0 : isW T n q 0 = true
  · rw [b2i_t z0, if_pos i10, bMo_isKept_84, b2i_t ⟨0, by omega, z0⟩]
  rw [b2i_f z0, ite_nn rfl]
  rw [bMo_isKept_7, Mo_isPurse h, tl_s, bMo_isKept_11]
  by_cases z1 : isW T n q 1 = true
  · rw [b2i_t z1, if_pos i10, bMo_isKept_84, b2i_t ⟨1, by omega, z1⟩]
  rw [b2i_f z1, ite_nn rfl]
  rw [bMo_isKept_14, Mo_isOven h, tl_s, bMo_isKept_18]
  by_cases z2 : isW T n q 2 = true
  · rw [b2i_t z2, if_pos i10, bMo_isKept_84, b2i_t ⟨2, by omega, z2⟩]
  rw [b2i_f z2, ite_nn rfl]
  rw [bMo_isKept_21, Mo_isRain h, tl_s, bMo_isKept_25]
  by_cases z3 : isW T n q 3 = true
  · rw [b2i_t z3, if_pos i10, bMo_isKept_84, b2i_t ⟨3, by omega, z3⟩]
  rw [b2i_f z3, ite_nn rfl]
  rw [bMo_isKept_28, Mo_isLoaf h, tl_s, bMo_isKept_32]
  by_cases z4 : isW T n q 4 = true
  · rw [b2i_t z4, if_pos i10, bMo_isKept_84, b2i_t ⟨4, by omega, z4⟩]
  rw [b2i_f z4, ite_nn rfl]
  rw [bMo_isKept_35, Mo_isBy h, tl_s, bMo_isKept_39]
  by_cases z5 : isW T n q 5 = true
  · rw [b2i_t z5, if_pos i10, bMo_isKept_84, b2i_t ⟨5, by omega, z5⟩]
  rw [b2i_f z5, ite_nn rfl]
  rw [bMo_isKept_42, Mo_isInWord h, tl_s, bMo_isKept_46]
  by_cases z6 : isW T n q 6 = true
  · rw [b2i_t z6, if_pos i10, bMo_isKept_84, b2i_t ⟨6, by omega, z6⟩]
  rw [b2i_f z6, ite_nn rfl]
  rw [bMo_isKept_49, Mo_isOn h, tl_s, bMo_isKept_53]
  by_cases z7 : isW T n q 7 = true
  · rw [b2i_t z7, if_pos i10, bMo_isKept_84, b2i_t ⟨7, by omega, z7⟩]
  rw [b2i_f z7, ite_nn rfl]
  rw [bMo_isKept_56, Mo_isSlices h, tl_s, bMo_isKept_60]
  by_cases z8 : isW T n q 8 = true
  · rw [b2i_t z8, if_pos i10, bMo_isKept_84, b2i_t ⟨8, by omega, z8⟩]
  rw [b2i_f z8, ite_nn rfl]
  rw [bMo_isKept_63, Mo_isFlour h, tl_s, bMo_isKept_67]
  by_cases z9 : isW T n q 9 = true
  · rw [b2i_t z9, if_pos i10, bMo_isKept_84, b2i_t ⟨9, by omega, z9⟩]
  rw [b2i_f z9, ite_nn rfl]
  rw [bMo_isKept_70, Mo_isOf h, tl_s, bMo_isKept_74]
  by_cases z11 : isW T n q 11 = true
  · rw [b2i_t z11, if_pos i10, bMo_isKept_84, b2i_t ⟨11, by omega, z11⟩]
  rw [b2i_f z11, ite_nn rfl]
  rw [bMo_isKept_77, Mo_isFrom h, tl_s, bMo_isKept_81]
  by_cases z12 : isW T n q 12 = true
  · rw [b2i_t z12, if_neg i10, bMo_isKept_84, b2i_t ⟨12, by omega, z12⟩]
  rw [b2i_f z12, if_pos rfl]
  rw [bMo_isKept_86, Mo_isTo h, tl_s, bMo_isKept_90]
  by_cases z13 : isW T n q 13 = true
  · rw [b2i_t z13, if_pos i10, bMo_isKept_121, bMo_isKept_126 (Or.inr rfl), b2i_t ⟨13, by omega, z13⟩]
  rw [b2i_f z13, ite_nn rfl]
  rw [bMo_isKept_93, Mo_isFor h, tl_s, bMo_isKept_97]
  by_cases z14 : isW T n q 14 = true
  · rw [b2i_t z14, if_pos i10, bMo_isKept_121, bMo_isKept_126 (Or.inr rfl), b2i_t ⟨14, by omega, z14⟩]
  rw [b2i_f z14, ite_nn rfl]
  rw [bMo_isKept_100, Mo_stepWord h, tl_s, bMo_isKept_104]
  by_cases sWdz : 0 ≤ sWd T n q
  · rw [if_pos sWdz, bMo_isKept_121, bMo_isKept_126 (Or.inr rfl), b2i_t (by obtain ⟨k, x1, _, x2⟩ := sWd_ge.mp sWdz; exact ⟨k, x1, x2⟩)]
  rw [if_neg sWdz]
  rw [bMo_isKept_107, Mo_testWord h, tl_s, bMo_isKept_111]
  by_cases tWdz : 0 ≤ tWd T n q
  · rw [if_pos tWdz, bMo_isKept_121, bMo_isKept_126 (Or.inr rfl), b2i_t (by obtain ⟨k, x1, _, x2⟩ := tWd_ge.mp tWdz; exact ⟨k, x1, x2⟩)]
  rw [if_neg tWdz]
  rw [bMo_isKept_114, Mo_isEnd h, tl_s, bMo_isKept_118]
  by_cases z26 : isW T n q 26 = true
  · rw [b2i_t z26, if_neg i10, bMo_isKept_121, bMo_isKept_126 (Or.inr rfl), b2i_t ⟨26, by omega, z26⟩]
  rw [b2i_f z26, if_pos rfl, bMo_isKept_125, bMo_isKept_126 (Or.inl rfl), b2i_f]
  rintro ⟨k, hk, z⟩
  rw [sWd_ge] at sWdz
  rw [tWd_ge] at tWdz
  rcases (show k = 0 ∨ k = 1 ∨ k = 2 ∨ k = 3 ∨ k = 4 ∨ k = 5 ∨ k = 6 ∨ k = 7 ∨ k = 8 ∨ k = 9 ∨ k = 10 ∨ k = 11 ∨ k = 12 ∨ k = 13 ∨ k = 14 ∨ k = 15 ∨ k = 16 ∨ k = 17 ∨ k = 18 ∨ k = 19 ∨ k = 20 ∨ k = 21 ∨ k = 22 ∨ k = 23 ∨ k = 24 ∨ k = 25 ∨ k = 26 ∨ k = 27 by omega) with rfl | rfl | rfl | rfl | rfl | rfl | rfl | rfl | rfl | rfl | rfl | rfl | rfl | rfl | rfl | rfl | rfl | rfl | rfl | rfl | rfl | rfl | rfl | rfl | rfl | rfl | rfl | rfl
  · exact z0 z
  · exact z1 z
  · exact z2 z
  · exact z3 z
  · exact z4 z
  · exact z5 z
  · exact z6 z
  · exact z7 z
  · exact z8 z
  · exact z9 z
  · exact sWdz ⟨10, by omega, by decide, z⟩
  · exact z11 z
  · exact z12 z
  · exact z13 z
  · exact z14 z
  · exact sWdz ⟨15, by omega, by decide, z⟩
  · exact sWdz ⟨16, by omega, by decide, z⟩
  · exact sWdz ⟨17, by omega, by decide, z⟩
  · exact sWdz ⟨18, by omega, by decide, z⟩
  · exact sWdz ⟨19, by omega, by decide, z⟩
  · exact sWdz ⟨20, by omega, by decide, z⟩
  · exact tWdz ⟨21, by omega, by decide, z⟩
  · exact tWdz ⟨22, by omega, by decide, z⟩
  · exact tWdz ⟨23, by omega, by decide, z⟩
  · exact tWdz ⟨24, by omega, by decide, z⟩
  · exact sWdz ⟨25, by omega, by decide, z⟩
  · exact z26 z
  · exact sWdz ⟨27, by omega, by decide, z⟩
