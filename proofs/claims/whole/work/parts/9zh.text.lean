/-! a text that is a constant: the JDK's own methods on it -/
def kBy : List Int32 := [112, 101, 114, 115, 111, 110, 32, 112, 117, 114, 115, 101, 32, 111, 118, 101, 110, 32, 114, 97, 105, 110, 32, 108, 111, 97, 102, 32, 98, 121, 32, 105, 110, 32, 111, 110, 32, 115, 108, 105, 99, 101, 115, 32, 102, 108, 111, 117, 114, 32, 112, 114, 111, 109, 105, 115, 101, 32, 111, 102, 32, 102, 114, 111, 109, 32, 116, 111, 32, 102, 111, 114, 32, 98, 97, 107, 101, 32, 119, 97, 105, 116, 32, 101, 97, 116, 32, 112, 97, 121, 32, 98, 114, 101, 97, 107, 32, 119, 104, 101, 110, 32, 100, 97, 121, 32, 104, 97, 115, 32, 98, 97, 107, 101, 100, 32, 119, 101, 116, 32, 108, 111, 111, 112, 32, 101, 110, 100, 32, 115, 116, 111, 112]
def kJ (a v : Nat) (x : Value) (A : Nat → Prop) (U : State) (H : Heap) : Prop := va_Z "java/lang/String" "COMPACT_STRINGS" "Z" (.int 1) A U H ∧ va_Z "jdk/internal/util/Preconditions" "SIOOBE_FORMATTER" "Ljava/util/function/BiFunction;" x A U H ∧ vk_S 1 [133] [kBy] (fun _ => a) (fun _ => v) A U H
theorem kJ.moved {a v : Nat} {x : Value} {A : Nat → Prop} {u U : State} {H : Heap} (hvm : u.vm.Alike U.vm) (h : kJ a v x A u H) : kJ a v x A U H := ⟨h.1.moved hvm, h.2.1.moved hvm, h.2.2.moved hvm⟩
theorem kJ.kept {a v : Nat} {x : Value} {A : Nat → Prop} {U : State} {H H1 : Heap} (h : kJ a v x A U H) (hq : ∀ q : Nat, q < H.size → ¬ A q → H1[q]? = H[q]?) : kJ a v x A U H1 := ⟨h.1.kept hq, h.2.1.kept hq, h.2.2.kept hq⟩
theorem kJ.narrow {a v : Nat} {x : Value} {A B : Nat → Prop} {U : State} {H : Heap} (h : kJ a v x A U H) (hAB : ∀ q, B q → A q) : kJ a v x B U H := ⟨h.1.narrow hAB, h.2.1.narrow hAB, h.2.2.narrow hAB⟩
theorem kBy_all : ∀ k : Fin 133, ((kBy.getD k.val 0 &&& 255).toUInt32 % 65536).toInt32 = kBy.getD k.val 0 ∧ narrow .char (.int (kBy.getD k.val 0)) = .int (kBy.getD k.val 0) := by decide +kernel
abbrev noA : Nat → Prop := fun _ => False
def mJ_coder : mM := (⟨"java/lang/String", "coder", "()B"⟩, prog_15_method_152_code, 1, some .byte, 15)
def mJ_isLatin1 : mM := (⟨"java/lang/String", "isLatin1", "()Z"⟩, prog_15_method_154_code, 1, some .boolean, 15)
def mJ_length : mM := (⟨"java/lang/String", "length", "()I"⟩, prog_15_method_54_code, 1, some .int, 15)
def mJ_charAt : mM := (⟨"java/lang/String", "charAt", "(I)C"⟩, prog_15_method_56_code, 2, some .char, 15)
def mJ_lcharAt : mM := (⟨"java/lang/StringLatin1", "charAt", "([BI)C"⟩, prog_16_method_2_code, 2, some .char, 15)
def mJ_checkIndex : mM := (⟨"java/lang/String", "checkIndex", "(II)V"⟩, prog_15_method_155_code, 2, none, 15)
def mJ_pcheck : mM := (⟨"jdk/internal/util/Preconditions", "checkIndex", "(IILjava/util/function/BiFunction;)I"⟩, prog_20_method_11_code, 3, some .int, 15)
theorem dJ_coder_0 : decode (mC mJ_coder) 0 = .ok (.getstatic 38, 3) := by decide +kernel
theorem dJ_coder_3 : decode (mC mJ_coder) 3 = .ok (.ifCond .eq 10, 3) := by decide +kernel
theorem dJ_coder_6 : decode (mC mJ_coder) 6 = .ok (.aload_n 0, 1) := by decide +kernel
theorem dJ_coder_7 : decode (mC mJ_coder) 7 = .ok (.getfield 15, 3) := by decide +kernel
theorem dJ_coder_10 : decode (mC mJ_coder) 10 = .ok (.goto 4, 3) := by decide +kernel
theorem dJ_coder_14 : decode (mC mJ_coder) 14 = .ok (.ireturn, 1) := by decide +kernel
theorem dJ_isLatin1_0 : decode (mC mJ_isLatin1) 0 = .ok (.getstatic 38, 3) := by decide +kernel
theorem dJ_isLatin1_3 : decode (mC mJ_isLatin1) 3 = .ok (.ifCond .eq 14, 3) := by decide +kernel
theorem dJ_isLatin1_6 : decode (mC mJ_isLatin1) 6 = .ok (.aload_n 0, 1) := by decide +kernel
theorem dJ_isLatin1_7 : decode (mC mJ_isLatin1) 7 = .ok (.getfield 15, 3) := by decide +kernel
theorem dJ_isLatin1_10 : decode (mC mJ_isLatin1) 10 = .ok (.ifCond .ne 7, 3) := by decide +kernel
theorem dJ_isLatin1_13 : decode (mC mJ_isLatin1) 13 = .ok (.iconst 1, 1) := by decide +kernel
theorem dJ_isLatin1_14 : decode (mC mJ_isLatin1) 14 = .ok (.goto 4, 3) := by decide +kernel
theorem dJ_isLatin1_18 : decode (mC mJ_isLatin1) 18 = .ok (.ireturn, 1) := by decide +kernel
theorem dJ_length_0 : decode (mC mJ_length) 0 = .ok (.aload_n 0, 1) := by decide +kernel
theorem dJ_length_1 : decode (mC mJ_length) 1 = .ok (.getfield 9, 3) := by decide +kernel
theorem dJ_length_4 : decode (mC mJ_length) 4 = .ok (.arraylength, 1) := by decide +kernel
theorem dJ_length_5 : decode (mC mJ_length) 5 = .ok (.aload_n 0, 1) := by decide +kernel
theorem dJ_length_6 : decode (mC mJ_length) 6 = .ok (.invokevirtual 335, 3) := by decide +kernel
theorem dJ_length_9 : decode (mC mJ_length) 9 = .ok (.ishr, 1) := by decide +kernel
theorem dJ_length_10 : decode (mC mJ_length) 10 = .ok (.ireturn, 1) := by decide +kernel
theorem dJ_charAt_0 : decode (mC mJ_charAt) 0 = .ok (.aload_n 0, 1) := by decide +kernel
theorem dJ_charAt_1 : decode (mC mJ_charAt) 1 = .ok (.invokevirtual 492, 3) := by decide +kernel
theorem dJ_charAt_4 : decode (mC mJ_charAt) 4 = .ok (.ifCond .eq 12, 3) := by decide +kernel
theorem dJ_charAt_7 : decode (mC mJ_charAt) 7 = .ok (.aload_n 0, 1) := by decide +kernel
theorem dJ_charAt_8 : decode (mC mJ_charAt) 8 = .ok (.getfield 9, 3) := by decide +kernel
theorem dJ_charAt_11 : decode (mC mJ_charAt) 11 = .ok (.iload_n 1, 1) := by decide +kernel
theorem dJ_charAt_12 : decode (mC mJ_charAt) 12 = .ok (.invokestatic 495, 3) := by decide +kernel
theorem dJ_charAt_15 : decode (mC mJ_charAt) 15 = .ok (.ireturn, 1) := by decide +kernel
theorem dJ_lcharAt_0 : decode (mC mJ_lcharAt) 0 = .ok (.iload_n 1, 1) := by decide +kernel
theorem dJ_lcharAt_1 : decode (mC mJ_lcharAt) 1 = .ok (.aload_n 0, 1) := by decide +kernel
theorem dJ_lcharAt_2 : decode (mC mJ_lcharAt) 2 = .ok (.arraylength, 1) := by decide +kernel
theorem dJ_lcharAt_3 : decode (mC mJ_lcharAt) 3 = .ok (.invokestatic 9, 3) := by decide +kernel
theorem dJ_lcharAt_6 : decode (mC mJ_lcharAt) 6 = .ok (.aload_n 0, 1) := by decide +kernel
theorem dJ_lcharAt_7 : decode (mC mJ_lcharAt) 7 = .ok (.iload_n 1, 1) := by decide +kernel
theorem dJ_lcharAt_8 : decode (mC mJ_lcharAt) 8 = .ok (.baload, 1) := by decide +kernel
theorem dJ_lcharAt_9 : decode (mC mJ_lcharAt) 9 = .ok (.sipush 255, 3) := by decide +kernel
theorem dJ_lcharAt_12 : decode (mC mJ_lcharAt) 12 = .ok (.iand, 1) := by decide +kernel
theorem dJ_lcharAt_13 : decode (mC mJ_lcharAt) 13 = .ok (.i2c, 1) := by decide +kernel
theorem dJ_lcharAt_14 : decode (mC mJ_lcharAt) 14 = .ok (.ireturn, 1) := by decide +kernel
theorem dJ_checkIndex_0 : decode (mC mJ_checkIndex) 0 = .ok (.iload_n 0, 1) := by decide +kernel
theorem dJ_checkIndex_1 : decode (mC mJ_checkIndex) 1 = .ok (.iload_n 1, 1) := by decide +kernel
theorem dJ_checkIndex_2 : decode (mC mJ_checkIndex) 2 = .ok (.getstatic 1053, 3) := by decide +kernel
theorem dJ_checkIndex_5 : decode (mC mJ_checkIndex) 5 = .ok (.invokestatic 1059, 3) := by decide +kernel
theorem dJ_checkIndex_8 : decode (mC mJ_checkIndex) 8 = .ok (.pop, 1) := by decide +kernel
theorem dJ_checkIndex_9 : decode (mC mJ_checkIndex) 9 = .ok (.return_, 1) := by decide +kernel
theorem dJ_pcheck_0 : decode (mC mJ_pcheck) 0 = .ok (.iload_n 0, 1) := by decide +kernel
theorem dJ_pcheck_1 : decode (mC mJ_pcheck) 1 = .ok (.ifCond .lt 8, 3) := by decide +kernel
theorem dJ_pcheck_4 : decode (mC mJ_pcheck) 4 = .ok (.iload_n 0, 1) := by decide +kernel
theorem dJ_pcheck_5 : decode (mC mJ_pcheck) 5 = .ok (.iload_n 1, 1) := by decide +kernel
theorem dJ_pcheck_6 : decode (mC mJ_pcheck) 6 = .ok (.if_icmp .lt 10, 3) := by decide +kernel
theorem dJ_pcheck_16 : decode (mC mJ_pcheck) 16 = .ok (.iload_n 0, 1) := by decide +kernel
theorem dJ_pcheck_17 : decode (mC mJ_pcheck) 17 = .ok (.ireturn, 1) := by decide +kernel
set_option maxHeartbeats 4000000 in
set_option maxRecDepth 100000 in
theorem cJ_coder (l : Launch) (a v : Nat) (x : Value) : Met l (mY mJ_coder) (mW mJ_coder) { frames := 1, cells := 0, slots := 0, locals := 64 } (va_Pc [.ref a] (fun U => kJ a v x noA U U.heap)) (va_Qi (fun (r : Int32) (_ : Unit) => r = 0) (fun _ _ => True) noA) 0 0 noA := by
  refine Met.ofW (cc := mC mJ_coder) (maxL := 1) (ret := some .byte) (by decide) rfl ?_
  intro p e s m args below meth c s₁ B hml hv
  obtain ⟨rfl, hJ⟩ := hv
  have hx := B.exec
  have hb := B.bytes
  have hr := B.returns
  have hts := atoms_spec (ws := mW mJ_coder) B.pre
  have hts2 : ∀ w ∈ mTB, w.before ([.ref a] : List Value).toArray s = true := fun w hw => hts w (List.mem_cons_of_mem _ hw)
  have hown : s.vm.findClass "java/lang/String" = some m.cls := findClass_of_methodNamed B.named
  have hlocks := B.notSynchronized
  have hJ2 := hJ
  obtain ⟨hZ, hX, hE⟩ := hJ2
  have hS : va_S noA s.heap s.heap [] := va_S.rf
  have hl := lv_entry ([.ref a]) (n := 1) (Nat.le_of_ble_eq_true rfl)
  rw [lg_entry_eq]
  generalize (lg_sl ([.ref a]) ++ List.replicate (1 - (lg_sl ([.ref a])).length) Slot.unset).toArray = ls at hl ⊢
  have hl : lv_has ls 1 [(0, .ref a)] := hl
  refine va_gets hx hb hZ hS hown (hts2 (.fieldLink "java/lang/String" 38 "java/lang/String" "COMPACT_STRINGS" "Z") (mTBm 1 70 rfl rfl)) (fun _ h => h) dJ_coder_0 ?_
  refine lv_if_eq hx hb dJ_coder_3 (tgt := 13) rfl (fun h => absurd h (by decide)) (fun _ => ?_)
  refine lv_aload_n hx hb dJ_coder_6 rfl (lv_at hl 0 rfl) ?_
  refine vk_getf hx hb (hE.1 0 (by decide)).2.1 hS hown (hts2 (.fieldLink "java/lang/String" 15 "java/lang/String" "coder" "B") (mTBm 9 71 rfl rfl)) (fun _ h => h) dJ_coder_7 ?_
  refine lv_goto hx hb dJ_coder_10 (tgt := 14) rfl ?_
  exact W.zret (ty := .byte) hx hb hr rfl (fun t ht hW => ⟨⟨0, (), rfl, rfl, trivial⟩, hS.F ht⟩) hS.2.2 dJ_coder_14
set_option maxHeartbeats 4000000 in
set_option maxRecDepth 100000 in
theorem cJ_isLatin1 (l : Launch) (a v : Nat) (x : Value) : Met l (mY mJ_isLatin1) (mW mJ_isLatin1) { frames := 1, cells := 0, slots := 0, locals := 64 } (va_Pc [.ref a] (fun U => kJ a v x noA U U.heap)) (va_Qi (fun (r : Int32) (_ : Unit) => r = 1) (fun _ _ => True) noA) 0 0 noA := by
  refine Met.ofW (cc := mC mJ_isLatin1) (maxL := 1) (ret := some .boolean) (by decide) rfl ?_
  intro p e s m args below meth c s₁ B hml hv
  obtain ⟨rfl, hJ⟩ := hv
  have hx := B.exec
  have hb := B.bytes
  have hr := B.returns
  have hts := atoms_spec (ws := mW mJ_isLatin1) B.pre
  have hts2 : ∀ w ∈ mTB, w.before ([.ref a] : List Value).toArray s = true := fun w hw => hts w (List.mem_cons_of_mem _ hw)
  have hown : s.vm.findClass "java/lang/String" = some m.cls := findClass_of_methodNamed B.named
  have hlocks := B.notSynchronized
  have hJ2 := hJ
  obtain ⟨hZ, hX, hE⟩ := hJ2
  have hS : va_S noA s.heap s.heap [] := va_S.rf
  have hl := lv_entry ([.ref a]) (n := 1) (Nat.le_of_ble_eq_true rfl)
  rw [lg_entry_eq]
  generalize (lg_sl ([.ref a]) ++ List.replicate (1 - (lg_sl ([.ref a])).length) Slot.unset).toArray = ls at hl ⊢
  have hl : lv_has ls 1 [(0, .ref a)] := hl
  refine va_gets hx hb hZ hS hown (hts2 (.fieldLink "java/lang/String" 38 "java/lang/String" "COMPACT_STRINGS" "Z") (mTBm 1 70 rfl rfl)) (fun _ h => h) dJ_isLatin1_0 ?_
  refine lv_if_eq hx hb dJ_isLatin1_3 (tgt := 17) rfl (fun h => absurd h (by decide)) (fun _ => ?_)
  refine lv_aload_n hx hb dJ_isLatin1_6 rfl (lv_at hl 0 rfl) ?_
  refine vk_getf hx hb (hE.1 0 (by decide)).2.1 hS hown (hts2 (.fieldLink "java/lang/String" 15 "java/lang/String" "coder" "B") (mTBm 9 71 rfl rfl)) (fun _ h => h) dJ_isLatin1_7 ?_
  refine lv_if_ne hx hb dJ_isLatin1_10 (tgt := 17) rfl (fun h => absurd rfl h) (fun _ => ?_)
  refine lv_iconst hx hb dJ_isLatin1_13 (v := 1) rfl ?_
  refine lv_goto hx hb dJ_isLatin1_14 (tgt := 18) rfl ?_
  exact W.zret (ty := .boolean) hx hb hr rfl (fun t ht hW => ⟨⟨1, (), rfl, rfl, trivial⟩, hS.F ht⟩) hS.2.2 dJ_isLatin1_18
set_option maxHeartbeats 4000000 in
set_option maxRecDepth 100000 in
theorem cJ_length (l : Launch) (a v : Nat) (x : Value) : Met l (mY mJ_length) (mW mJ_length) { frames := 2, cells := 0, slots := 0, locals := 128 } (va_Pc [.ref a] (fun U => kJ a v x noA U U.heap)) (va_Qi (fun (r : Int32) (_ : Unit) => r = nI 133) (fun _ _ => True) noA) 0 0 noA := by
  refine Met.ofW (cc := mC mJ_length) (maxL := 1) (ret := some .int) (by decide) rfl ?_
  intro p e s m args below meth c s₁ B hml hv
  obtain ⟨rfl, hJ⟩ := hv
  have hx := B.exec
  have hb := B.bytes
  have hr := B.returns
  have hts := atoms_spec (ws := mW mJ_length) B.pre
  have hts2 : ∀ w ∈ mTB, w.before ([.ref a] : List Value).toArray s = true := fun w hw => hts w (List.mem_cons_of_mem _ hw)
  have hown : s.vm.findClass "java/lang/String" = some m.cls := findClass_of_methodNamed B.named
  have hlocks := B.notSynchronized
  have hJ2 := hJ
  obtain ⟨hZ, hX, hE⟩ := hJ2
  have hS : va_S noA s.heap s.heap [] := va_S.rf
  have hl := lv_entry ([.ref a]) (n := 1) (Nat.le_of_ble_eq_true rfl)
  rw [lg_entry_eq]
  generalize (lg_sl ([.ref a]) ++ List.replicate (1 - (lg_sl ([.ref a])).length) Slot.unset).toArray = ls at hl ⊢
  have hl : lv_has ls 1 [(0, .ref a)] := hl
  refine lv_aload_n hx hb dJ_length_0 rfl (lv_at hl 0 rfl) ?_
  refine vk_getf hx hb (hE.1 0 (by decide)).2.2.1 hS hown (hts2 (.fieldLink "java/lang/String" 9 "java/lang/String" "value" "[B") (mTBm 9 70 rfl rfl)) (fun _ h => h) dJ_length_1 ?_
  refine va_tlen hx hb (hE.1 0 (by decide)).2.2.2 hS (v := nI 133) rfl dJ_length_4 ?_
  refine lv_aload_n hx hb dJ_length_5 rfl (lv_at hl 0 rfl) ?_
  refine va_calli (va_runV (b := a) (As := []) (rest := [.int (nI 133)]) ⟨hx, hb, hml, hown, hts2⟩ (cJ_coder l a v x) ⟨callB_of 0 hts2 (mGoodI (M' := mJ_coder) (fun _ h => h) (mTBm 1 69 rfl rfl)) rfl rfl rfl (hts2 (.initialized "java/lang/String") (mTBm 1 6 rfl rfl)) (hts2 (.methodLink "java/lang/String" 335 (mY mJ_coder)) (mTBm 1 66 rfl rfl)) ⟨by decide +kernel, by decide +kernel, by decide +kernel⟩ ⟨Nat.le_of_ble_eq_true rfl, Nat.le_of_ble_eq_true rfl⟩, (hts2 (.instanceMethod (mY mJ_coder)) (mTBm 1 67 rfl rfl)), (hts2 (.selects "java/lang/String" (mY mJ_coder) (mY mJ_coder)) (mTBm 1 68 rfl rfl))⟩ ⟨fun a U g mk q => by obtain ⟨q0, q1⟩ := q; exact ⟨q0, kJ.moved (u := U) (U := U.calling g mk a) (Vm.Alike.refl U.vm) q1⟩, vk_recv hE (i := 0) (by decide) hS, fun U hU hW => ⟨rfl, by show kJ a v x noA U U.heap; rw [hU]; exact (hJ.kept hS.2.1).moved hW.alike⟩⟩ rfl rfl hl.1 rfl (lv_room (Nat.le_of_ble_eq_true rfl)) dJ_length_6 ⟨Nat.le_of_ble_eq_true rfl, Nat.le_of_ble_eq_true rfl⟩) hS (fun _ _ h => h) (fun _ h => h) (fun r u t H1 locs ht hvm hw hB hz1 hk1 hS => ?_)
  subst hw
  refine lv_ishr hx hb dJ_length_9 ?_
  exact W.iret hx hb hr (fun t ht hW => ⟨⟨_, (), rfl, by decide, trivial⟩, hS.F ht⟩) hS.2.2 dJ_length_10
set_option maxHeartbeats 4000000 in
set_option maxRecDepth 100000 in
theorem cJ_pcheck (l : Launch) (a v : Nat) (x : Value) {k : Nat} (hk : k < 133) (hx1 : x.category = 1) : Met l (mY mJ_pcheck) (mW mJ_pcheck) { frames := 1, cells := 0, slots := 0, locals := 64 } (va_Pc [.int (nI k), .int (nI 133), x] (fun U => kJ a v x noA U U.heap)) (va_Qi (fun (r : Int32) (_ : Unit) => r = nI k) (fun _ _ => True) noA) 0 0 noA := by
  refine Met.ofW (cc := mC mJ_pcheck) (maxL := 3) (ret := some .int) (by decide) rfl ?_
  intro p e s m args below meth c s₁ B hml hv
  obtain ⟨rfl, hJ⟩ := hv
  have hx := B.exec
  have hb := B.bytes
  have hr := B.returns
  have hts := atoms_spec (ws := mW mJ_pcheck) B.pre
  have hts2 : ∀ w ∈ mTB, w.before ([.int (nI k), .int (nI 133), x] : List Value).toArray s = true := fun w hw => hts w (List.mem_cons_of_mem _ hw)
  have hown : s.vm.findClass "jdk/internal/util/Preconditions" = some m.cls := findClass_of_methodNamed B.named
  have hlocks := B.notSynchronized
  have hJ2 := hJ
  obtain ⟨hZ, hX, hE⟩ := hJ2
  have hS : va_S noA s.heap s.heap [] := va_S.rf
  have h3 : (lg_sl ([.int (nI k), .int (nI 133), x])).length ≤ 3 := by cases x <;> first | exact Nat.le_of_ble_eq_true rfl | exact absurd hx1 (by simp [Value.category])
  have hl := lv_entry ([.int (nI k), .int (nI 133), x]) (n := 3) h3
  rw [lg_entry_eq]
  generalize (lg_sl ([.int (nI k), .int (nI 133), x]) ++ List.replicate (3 - (lg_sl ([.int (nI k), .int (nI 133), x])).length) Slot.unset).toArray = ls at hl ⊢
  have hl : lv_has ls 3 [(0, .int (nI k)), (1, .int (nI 133)), (2, x)] := hl
  refine lv_iload_n hx hb dJ_pcheck_0 rfl (lv_at hl 0 rfl) ?_
  refine lv_if_lt hx hb dJ_pcheck_1 (tgt := 9) rfl (fun h => absurd h (nI_pos (by omega))) (fun _ => ?_)
  refine lv_iload_n hx hb dJ_pcheck_4 rfl (lv_at hl 0 rfl) ?_
  refine lv_iload_n hx hb dJ_pcheck_5 rfl (lv_at hl 1 rfl) ?_
  refine lv_icmp_lt hx hb dJ_pcheck_6 (tgt := 16) rfl (fun _ => ?_) (fun h => absurd (nI_lt hk (by omega)) h)
  refine lv_iload_n hx hb dJ_pcheck_16 rfl (lv_at hl 0 rfl) ?_
  exact W.iret hx hb hr (fun t ht hW => ⟨⟨_, (), rfl, rfl, trivial⟩, hS.F ht⟩) hS.2.2 dJ_pcheck_17
set_option maxHeartbeats 4000000 in
set_option maxRecDepth 100000 in
theorem cJ_checkIndex (l : Launch) (a v : Nat) (x : Value) {k : Nat} (hk : k < 133) (hx1 : x.category = 1) : Met l (mY mJ_checkIndex) (mW mJ_checkIndex) { frames := 2, cells := 0, slots := 0, locals := 128 } (va_Pc [.int (nI k), .int (nI 133)] (fun U => kJ a v x noA U U.heap)) (va_Qv (fun _ : Unit => True) (fun _ _ => True) noA) 0 0 noA := by
  refine Met.ofW (cc := mC mJ_checkIndex) (maxL := 2) (ret := none) (by decide) rfl ?_
  intro p e s m args below meth c s₁ B hml hv
  obtain ⟨rfl, hJ⟩ := hv
  have hx := B.exec
  have hb := B.bytes
  have hr := B.returns
  have hts := atoms_spec (ws := mW mJ_checkIndex) B.pre
  have hts2 : ∀ w ∈ mTB, w.before ([.int (nI k), .int (nI 133)] : List Value).toArray s = true := fun w hw => hts w (List.mem_cons_of_mem _ hw)
  have hown : s.vm.findClass "java/lang/String" = some m.cls := findClass_of_methodNamed B.named
  have hlocks := B.notSynchronized
  have hJ2 := hJ
  obtain ⟨hZ, hX, hE⟩ := hJ2
  have hS : va_S noA s.heap s.heap [] := va_S.rf
  have hl := lv_entry ([.int (nI k), .int (nI 133)]) (n := 2) (Nat.le_of_ble_eq_true rfl)
  rw [lg_entry_eq]
  generalize (lg_sl ([.int (nI k), .int (nI 133)]) ++ List.replicate (2 - (lg_sl ([.int (nI k), .int (nI 133)])).length) Slot.unset).toArray = ls at hl ⊢
  have hl : lv_has ls 2 [(0, .int (nI k)), (1, .int (nI 133))] := hl
  refine lv_iload_n hx hb dJ_checkIndex_0 rfl (lv_at hl 0 rfl) ?_
  refine lv_iload_n hx hb dJ_checkIndex_1 rfl (lv_at hl 1 rfl) ?_
  refine va_gets hx hb hX hS hown (hts2 (.fieldLink "java/lang/String" 1053 "jdk/internal/util/Preconditions" "SIOOBE_FORMATTER" "Ljava/util/function/BiFunction;") (mTBm 1 86 rfl rfl)) (fun _ h => h) dJ_checkIndex_2 ?_
  refine va_calli (va_runS (As := [.int (nI k), .int (nI 133), x]) (rest := []) ⟨hx, hb, hml, hown, hts2⟩ (cJ_pcheck l a v x hk hx1) ⟨callB_of 3 hts2 (mGoodI (M' := mJ_pcheck) (fun _ h => h) (mTBm 1 90 rfl rfl)) rfl rfl rfl (hts2 (.initialized "jdk/internal/util/Preconditions") (mTBm 1 8 rfl rfl)) (hts2 (.methodLink "java/lang/String" 1059 (mY mJ_pcheck)) (mTBm 1 88 rfl rfl)) ⟨by decide +kernel, by decide +kernel, by decide +kernel⟩ ⟨Nat.le_of_ble_eq_true rfl, Nat.le_of_ble_eq_true rfl⟩, (hts2 (.static (mY mJ_pcheck)) (mTBm 1 89 rfl rfl))⟩ ⟨fun a U g mk q => by obtain ⟨q0, q1⟩ := q; exact ⟨q0, kJ.moved (u := U) (U := U.calling g mk a) (Vm.Alike.refl U.vm) q1⟩, fun U hU hW => ⟨rfl, by show kJ a v x noA U U.heap; rw [hU]; exact (hJ.kept hS.2.1).moved hW.alike⟩⟩ rfl rfl hl.1 rfl (lv_room (Nat.le_of_ble_eq_true rfl)) dJ_checkIndex_5 ⟨Nat.le_of_ble_eq_true rfl, Nat.le_of_ble_eq_true rfl⟩) hS (fun _ _ h => h) (fun _ h => h) (fun r u t H1 locs ht hvm hw hB hz1 hk1 hS => ?_)
  refine lv_pop hx hb dJ_checkIndex_8 rfl ?_
  exact W.vret hx hb hr (fun t ht hW => ⟨⟨(), rfl, trivial, trivial⟩, hS.F ht⟩) hS.2.2 dJ_checkIndex_9
set_option maxHeartbeats 4000000 in
set_option maxRecDepth 100000 in
theorem cJ_lcharAt (l : Launch) (a v : Nat) (x : Value) {k : Nat} (hk : k < 133) (hx1 : x.category = 1) : Met l (mY mJ_lcharAt) (mW mJ_lcharAt) { frames := 3, cells := 0, slots := 0, locals := 192 } (va_Pc [.ref v, .int (nI k)] (fun U => kJ a v x noA U U.heap)) (va_Qi (fun (r : Int32) (_ : Unit) => r = kBy.getD k 0) (fun _ _ => True) noA) 0 0 noA := by
  refine Met.ofW (cc := mC mJ_lcharAt) (maxL := 2) (ret := some .char) (by decide) rfl ?_
  intro p e s m args below meth c s₁ B hml hv
  obtain ⟨rfl, hJ⟩ := hv
  have hx := B.exec
  have hb := B.bytes
  have hr := B.returns
  have hts := atoms_spec (ws := mW mJ_lcharAt) B.pre
  have hts2 : ∀ w ∈ mTB, w.before ([.ref v, .int (nI k)] : List Value).toArray s = true := fun w hw => hts w (List.mem_cons_of_mem _ hw)
  have hown : s.vm.findClass "java/lang/StringLatin1" = some m.cls := findClass_of_methodNamed B.named
  have hlocks := B.notSynchronized
  have hJ2 := hJ
  obtain ⟨hZ, hX, hE⟩ := hJ2
  have hS : va_S noA s.heap s.heap [] := va_S.rf
  have hl := lv_entry ([.ref v, .int (nI k)]) (n := 2) (Nat.le_of_ble_eq_true rfl)
  rw [lg_entry_eq]
  generalize (lg_sl ([.ref v, .int (nI k)]) ++ List.replicate (2 - (lg_sl ([.ref v, .int (nI k)])).length) Slot.unset).toArray = ls at hl ⊢
  have hl : lv_has ls 2 [(0, .ref v), (1, .int (nI k))] := hl
  refine lv_iload_n hx hb dJ_lcharAt_0 rfl (lv_at hl 1 rfl) ?_
  refine lv_aload_n hx hb dJ_lcharAt_1 rfl (lv_at hl 0 rfl) ?_
  refine va_tlen hx hb (hE.1 0 (by decide)).2.2.2 hS (v := nI 133) rfl dJ_lcharAt_2 ?_
  refine va_callv (va_runS (As := [.int (nI k), .int (nI 133)]) (rest := []) ⟨hx, hb, hml, hown, hts2⟩ (cJ_checkIndex l a v x hk hx1) ⟨callB_of 2 hts2 (mGoodI (M' := mJ_checkIndex) (fun _ h => h) (mTBm 1 85 rfl rfl)) rfl rfl rfl (hts2 (.initialized "java/lang/String") (mTBm 1 6 rfl rfl)) (hts2 (.methodLink "java/lang/StringLatin1" 9 (mY mJ_checkIndex)) (mTBm 1 83 rfl rfl)) ⟨by decide +kernel, by decide +kernel, by decide +kernel⟩ ⟨Nat.le_of_ble_eq_true rfl, Nat.le_of_ble_eq_true rfl⟩, (hts2 (.static (mY mJ_checkIndex)) (mTBm 1 84 rfl rfl))⟩ ⟨fun a U g mk q => by obtain ⟨q0, q1⟩ := q; exact ⟨q0, kJ.moved (u := U) (U := U.calling g mk a) (Vm.Alike.refl U.vm) q1⟩, fun U hU hW => ⟨rfl, by show kJ a v x noA U U.heap; rw [hU]; exact (hJ.kept hS.2.1).moved hW.alike⟩⟩ rfl rfl hl.1 rfl (lv_room (Nat.le_of_ble_eq_true rfl)) dJ_lcharAt_3 ⟨Nat.le_of_ble_eq_true rfl, Nat.le_of_ble_eq_true rfl⟩) hS (fun _ _ h => h) (fun _ h => h) (fun u t H1 locs ht hvm hw hB hz1 hk1 hS => ?_)
  refine lv_aload_n hx hb dJ_lcharAt_6 rfl (lv_at hl 0 rfl) ?_
  refine lv_iload_n hx hb dJ_lcharAt_7 rfl (lv_at hl 1 rfl) ?_
  refine va_tb hx hb (hE.1 0 (by decide)).2.2.2 hS (i := nI k) (vp_in_nI hk (by decide)) (v := .int (kBy.getD k 0)) (by rw [nI_clamp (by omega)]; rfl) dJ_lcharAt_8 ?_
  refine lv_sipush hx hb dJ_lcharAt_9 (v := 255) rfl ?_
  refine lv_iand hx hb dJ_lcharAt_12 ?_
  refine lv_i2c hx hb dJ_lcharAt_13 (kBy_all ⟨k, hk⟩).1 ?_
  exact W.zret (ty := .char) hx hb hr (kBy_all ⟨k, hk⟩).2 (fun t ht hW => ⟨⟨_, (), rfl, rfl, trivial⟩, hS.F ht⟩) hS.2.2 dJ_lcharAt_14
set_option maxHeartbeats 4000000 in
set_option maxRecDepth 100000 in
theorem cJ_charAt (l : Launch) (a v : Nat) (x : Value) {k : Nat} (hk : k < 133) (hx1 : x.category = 1) : Met l (mY mJ_charAt) (mW mJ_charAt) { frames := 4, cells := 0, slots := 0, locals := 256 } (va_Pc [.ref a, .int (nI k)] (fun U => kJ a v x noA U U.heap)) (va_Qi (fun (r : Int32) (_ : Unit) => r = kBy.getD k 0) (fun _ _ => True) noA) 0 0 noA := by
  refine Met.ofW (cc := mC mJ_charAt) (maxL := 2) (ret := some .char) (by decide) rfl ?_
  intro p e s m args below meth c s₁ B hml hv
  obtain ⟨rfl, hJ⟩ := hv
  have hx := B.exec
  have hb := B.bytes
  have hr := B.returns
  have hts := atoms_spec (ws := mW mJ_charAt) B.pre
  have hts2 : ∀ w ∈ mTB, w.before ([.ref a, .int (nI k)] : List Value).toArray s = true := fun w hw => hts w (List.mem_cons_of_mem _ hw)
  have hown : s.vm.findClass "java/lang/String" = some m.cls := findClass_of_methodNamed B.named
  have hlocks := B.notSynchronized
  have hJ2 := hJ
  obtain ⟨hZ, hX, hE⟩ := hJ2
  have hS : va_S noA s.heap s.heap [] := va_S.rf
  have hl := lv_entry ([.ref a, .int (nI k)]) (n := 2) (Nat.le_of_ble_eq_true rfl)
  rw [lg_entry_eq]
  generalize (lg_sl ([.ref a, .int (nI k)]) ++ List.replicate (2 - (lg_sl ([.ref a, .int (nI k)])).length) Slot.unset).toArray = ls at hl ⊢
  have hl : lv_has ls 2 [(0, .ref a), (1, .int (nI k))] := hl
  refine lv_aload_n hx hb dJ_charAt_0 rfl (lv_at hl 0 rfl) ?_
  refine va_calli (va_runV (b := a) (As := []) (rest := []) ⟨hx, hb, hml, hown, hts2⟩ (cJ_isLatin1 l a v x) ⟨callB_of 0 hts2 (mGoodI (M' := mJ_isLatin1) (fun _ h => h) (mTBm 1 79 rfl rfl)) rfl rfl rfl (hts2 (.initialized "java/lang/String") (mTBm 1 6 rfl rfl)) (hts2 (.methodLink "java/lang/String" 492 (mY mJ_isLatin1)) (mTBm 1 76 rfl rfl)) ⟨by decide +kernel, by decide +kernel, by decide +kernel⟩ ⟨Nat.le_of_ble_eq_true rfl, Nat.le_of_ble_eq_true rfl⟩, (hts2 (.instanceMethod (mY mJ_isLatin1)) (mTBm 1 77 rfl rfl)), (hts2 (.selects "java/lang/String" (mY mJ_isLatin1) (mY mJ_isLatin1)) (mTBm 1 78 rfl rfl))⟩ ⟨fun a U g mk q => by obtain ⟨q0, q1⟩ := q; exact ⟨q0, kJ.moved (u := U) (U := U.calling g mk a) (Vm.Alike.refl U.vm) q1⟩, vk_recv hE (i := 0) (by decide) hS, fun U hU hW => ⟨rfl, by show kJ a v x noA U U.heap; rw [hU]; exact (hJ.kept hS.2.1).moved hW.alike⟩⟩ rfl rfl hl.1 rfl (lv_room (Nat.le_of_ble_eq_true rfl)) dJ_charAt_1 ⟨Nat.le_of_ble_eq_true rfl, Nat.le_of_ble_eq_true rfl⟩) hS (fun _ _ h => h) (fun _ h => h) (fun r u t H1 locs ht hvm hw hB hz1 hk1 hS => ?_)
  subst hw
  refine lv_if_eq hx hb dJ_charAt_4 (tgt := 16) rfl (fun h => absurd h (by decide)) (fun _ => ?_)
  refine lv_aload_n hx hb dJ_charAt_7 rfl (lv_at hl 0 rfl) ?_
  refine vk_getf hx hb (hE.1 0 (by decide)).2.2.1 hS hown (hts2 (.fieldLink "java/lang/String" 9 "java/lang/String" "value" "[B") (mTBm 9 70 rfl rfl)) (fun _ h => h) dJ_charAt_8 ?_
  refine lv_iload_n hx hb dJ_charAt_11 rfl (lv_at hl 1 rfl) ?_
  refine va_calli (va_runS (As := [.ref v, .int (nI k)]) (rest := []) ⟨hx, hb, hml, hown, hts2⟩ (cJ_lcharAt l a v x hk hx1) ⟨callB_of 2 hts2 (mGoodI (M' := mJ_lcharAt) (fun _ h => h) (mTBm 1 82 rfl rfl)) rfl rfl rfl (hts2 (.initialized "java/lang/StringLatin1") (mTBm 1 7 rfl rfl)) (hts2 (.methodLink "java/lang/String" 495 (mY mJ_lcharAt)) (mTBm 1 80 rfl rfl)) ⟨by decide +kernel, by decide +kernel, by decide +kernel⟩ ⟨Nat.le_of_ble_eq_true rfl, Nat.le_of_ble_eq_true rfl⟩, (hts2 (.static (mY mJ_lcharAt)) (mTBm 1 81 rfl rfl))⟩ ⟨fun a U g mk q => by obtain ⟨q0, q1⟩ := q; exact ⟨q0, kJ.moved (u := U) (U := U.calling g mk a) (Vm.Alike.refl U.vm) q1⟩, fun U hU hW => ⟨rfl, by show kJ a v x noA U U.heap; rw [hU]; exact (hJ.kept hS.2.1).moved hW.alike⟩⟩ rfl rfl hl.1 rfl (lv_room (Nat.le_of_ble_eq_true rfl)) dJ_charAt_12 ⟨Nat.le_of_ble_eq_true rfl, Nat.le_of_ble_eq_true rfl⟩) hS (fun _ _ h => h) (fun _ h => h) (fun r u t H1 locs ht hvm hw hB hz1 hk1 hS => ?_)
  subst hw
  exact W.zret (ty := .char) hx hb hr (kBy_all ⟨k, hk⟩).2 (fun t ht hW => ⟨⟨_, (), rfl, rfl, trivial⟩, hS.F ht⟩) hS.2.2 dJ_charAt_15
