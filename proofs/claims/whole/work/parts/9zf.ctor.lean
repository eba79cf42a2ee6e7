/-! the constructors, by the kit's rows: those that make rows of numbers alone -/
theorem mTBm (k i : Nat) {w : Cond} (h : (mChunk k)[i]? = some w) (g : goodWord w = true) : w ∈ mTB := List.mem_filter.mpr ⟨mChunk_in k w (List.mem_of_getElem? h), g⟩
theorem ha_int (n : Nat) : ∀ cA : ClassId, vp_cell cA (n, .inl (fun _ => 0)) = arrV cA n (fun _ => defaultValue .int) := fun _ => rfl
theorem ha_byte (n : Nat) : ∀ cA : ClassId, vp_cell cA (n, .inl (fun _ => 0)) = arrV cA n (fun _ => defaultValue .byte) := fun _ => rfl
theorem ha_boolean (n : Nat) : ∀ cA : ClassId, vp_cell cA (n, .inl (fun _ => 0)) = arrV cA n (fun _ => defaultValue .boolean) := fun _ => rfl
theorem ha_long (n : Nat) : ∀ cA : ClassId, vp_cell cA (n, .inr (.inl (fun _ => 0))) = arrV cA n (fun _ => defaultValue .long) := fun _ => rfl
def mI_Na : mM := (yX2_init, cX2_init, 1, none, 2)
def blkNa (ad : Nat → Nat) (cA : Nat → ClassId) : va_W := [(ad 0, .inr (2, [.ref (ad 1)])), (ad 1, .inl (cA 1, (20, .inr (.inl (fun _ => 0)))))]
def tysNa (cA : Nat → ClassId) : List (ClassId × FieldType) := [(cA 1, .long)]
theorem dI_Na_0 : decode cX2_init 0 = .ok (.aload_n 0, 1) := by decide +kernel
theorem dI_Na_1 : decode cX2_init 1 = .ok (.invokespecial 3, 3) := by decide +kernel
theorem dI_Na_4 : decode cX2_init 4 = .ok (.aload_n 0, 1) := by decide +kernel
theorem dI_Na_5 : decode cX2_init 5 = .ok (.bipush 20, 2) := by decide +kernel
theorem dI_Na_7 : decode cX2_init 7 = .ok (.newarray .long, 2) := by decide +kernel
theorem dI_Na_9 : decode cX2_init 9 = .ok (.putfield 9, 3) := by decide +kernel
theorem dI_Na_12 : decode cX2_init 12 = .ok (.return_, 1) := by decide +kernel
set_option maxHeartbeats 4000000 in
set_option maxRecDepth 100000 in
theorem cI_Na (l : Launch) (D : va_G) (h0 sz : Nat) : Met l (mY mI_Na) (mW mI_Na) { frames := 1, cells := 1, slots := 20, locals := 64 } (va_Pc [.ref h0] (fun U => U.heap.size = sz ∧ va_P D vwCl [(h0, .inr (2, [.null]))] U.heap ∧ va_K D vwCl [] U ∧ va_D (fun _ => True) [(h0, .inr (2, [.null]))])) (va_Qv (fun u : (Nat → Nat) × (Nat → ClassId) => u.1 0 = h0) (fun u t => va_P D vwCl (blkNa u.1 u.2) t.heap ∧ va_K D vwCl (tysNa u.2) t ∧ va_D (va_A [(h0, .inr (2, [.null]))] sz) (blkNa u.1 u.2)) (va_A [(h0, .inr (2, [.null]))] sz)) 1 20 (va_A [(h0, .inr (2, [.null]))] sz) := by
  refine Met.ofW (cc := cX2_init) (maxL := 1) (ret := none) (by decide) rfl ?_
  intro p e s m args below meth c s₁ B hml hv
  obtain ⟨rfl, hsz, hP, hK, hD0⟩ := hv
  have hx := B.exec
  have hb := B.bytes
  have hr := B.returns
  have hts := atoms_spec (ws := mW mI_Na) B.pre
  have hts2 : ∀ w ∈ mTB, w.before #[Value.ref h0] s = true := fun w hw => hts w (List.mem_cons_of_mem _ hw)
  have hown : s.vm.findClass RX2 = some m.cls := findClass_of_methodNamed B.named
  have hlocks := B.notSynchronized
  have hin : meth.name = "<init>" := (name_of_methodNamed B.named B.method).1
  subst hsz
  have hD := hD0.self (sz := s.heap.size)
  generalize hAe : va_A [(h0, .inr (2, [.null]))] s.heap.size = A at hD ⊢
  have hA : ∀ q : Nat, s.heap.size ≤ q → A q := fun q h => by rw [← hAe]; exact Or.inr h
  have hS : va_S A s.heap s.heap [] := va_S.rf
  have hl := lv_entry ([.ref h0]) (n := 1) (Nat.le_of_ble_eq_true rfl)
  rw [lg_entry_eq]
  generalize (lg_sl ([.ref h0]) ++ List.replicate (1 - (lg_sl ([.ref h0])).length) Slot.unset).toArray = ls at hl ⊢
  have hl : lv_has ls 1 [(0, .ref h0)] := hl
  obtain ⟨lay1, lay2, lay3, lay4⟩ := id (mLay (show vwCl[2]? = some (RX2, TX2, 1) from rfl))
  refine lv_aload_n hx hb dI_Na_0 rfl (lv_at hl 0 rfl) ?_
  refine W.objInit hx hb hown (hts (.methodLink RX2 3 objectInit) (List.mem_cons_of_mem _ (mTBm 1 169 rfl rfl))) (hts (.instanceMethod objectInit) (List.mem_cons_of_mem _ (mTBm 1 26 rfl rfl))) (hts (.code objectInit ⟨#[0xb1]⟩ 1 none) (List.mem_cons_of_mem _ (mTBm 1 27 rfl rfl))) rfl (by rw [hml]; exact hl.1) rfl dI_Na_1 (Nat.le_of_ble_eq_true rfl) (Nat.le_of_ble_eq_true rfl) ?_
  refine W.eq (g2 := F0 m 4 ls []) rfl ?_
  refine lv_aload_n hx hb dI_Na_4 rfl (lv_at hl 0 rfl) ?_
  refine lv_bipush hx hb dI_Na_5 (v := nI 20) rfl ?_
  refine va_newa (atype := .long) (a0 := (20, .inr (.inl (fun _ => 0)))) (N' := 20) (ty := .long) hx hb (hts (.arrayClass .long) (List.mem_cons_of_mem _ (mTBm 1 47 rfl rfl))) rfl hK hP hD hS hA (ha_long 20) (nI_pos (by decide)) (nI_clamp (by decide)) (Nat.le_of_ble_eq_true rfl) (Nat.le_of_ble_eq_true rfl) (Nat.le_of_ble_eq_true rfl) dI_Na_7 (fun q1 c1 H hK hP hD hS => ?_)
  have hP : va_P D vwCl [(h0, .inr (2, [.null])), (q1, .inl (c1, (20, .inr (.inl (fun _ => 0)))))] H := hP
  have hD : va_D A [(h0, .inr (2, [.null])), (q1, .inl (c1, (20, .inr (.inl (fun _ => 0)))))] := hD
  have hK : va_K D vwCl [(c1, .long)] s := hK
  refine va_putF (D := D) (ci := 2) (v := .ref q1) (ty := (.array .long)) (C := RX2) (T := TX2) (N := 1) hx hb hts2 lay1 _ lay3 lay4 hown hK hP hD hS 0 rfl rfl 0 (by decide) (hts2 (.fieldLink RX2 9 RX2 "known" "[J") (mTBm 1 170 rfl rfl)) (fun _ h9 => h9) rfl hin rfl (by decide +kernel) rfl rfl (Nat.le_of_ble_eq_true rfl) dI_Na_9 (fun H locs hP hD hS => ?_)
  have hP : va_P D vwCl [(h0, .inr (2, [.ref q1])), (q1, .inl (c1, (20, .inr (.inl (fun _ => 0)))))] H := hP
  have hD : va_D A [(h0, .inr (2, [.ref q1])), (q1, .inl (c1, (20, .inr (.inl (fun _ => 0)))))] := hD
  refine W.widen (k := 1) (n := 20) (by decide) (by decide) ?_
  exact W.vret hx hb hr (fun t ht hW => ⟨⟨(fun i => ([h0, q1] : List Nat).getD i 0, fun i => ([c1, c1] : List ClassId).getD i c1), rfl, rfl, by rw [ht]; exact hP, va_K.moved hW.alike hK, hD⟩, hS.F ht⟩) hS.2.2 dI_Na_12
def mI_Da : mM := (yX0_init, cX0_init, 1, none, 0)
def blkDa (ad : Nat → Nat) (cA : Nat → ClassId) : va_W := [(ad 0, .inr (0, [.ref (ad 1), .ref (ad 2), .int 0, .int 0, .int 0, .int 0])), (ad 1, .inl (cA 1, (420, .inl (fun _ => 0)))), (ad 2, .inl (cA 2, (3, .inl (fun _ => 0))))]
def tysDa (cA : Nat → ClassId) : List (ClassId × FieldType) := [(cA 1, .int), (cA 2, .int)]
theorem dI_Da_0 : decode cX0_init 0 = .ok (.aload_n 0, 1) := by decide +kernel
theorem dI_Da_1 : decode cX0_init 1 = .ok (.invokespecial 5, 3) := by decide +kernel
theorem dI_Da_4 : decode cX0_init 4 = .ok (.aload_n 0, 1) := by decide +kernel
theorem dI_Da_5 : decode cX0_init 5 = .ok (.sipush 420, 3) := by decide +kernel
theorem dI_Da_8 : decode cX0_init 8 = .ok (.newarray .int, 2) := by decide +kernel
theorem dI_Da_10 : decode cX0_init 10 = .ok (.putfield 11, 3) := by decide +kernel
theorem dI_Da_13 : decode cX0_init 13 = .ok (.aload_n 0, 1) := by decide +kernel
theorem dI_Da_14 : decode cX0_init 14 = .ok (.iconst 3, 1) := by decide +kernel
theorem dI_Da_15 : decode cX0_init 15 = .ok (.newarray .int, 2) := by decide +kernel
theorem dI_Da_17 : decode cX0_init 17 = .ok (.putfield 15, 3) := by decide +kernel
theorem dI_Da_20 : decode cX0_init 20 = .ok (.return_, 1) := by decide +kernel
set_option maxHeartbeats 4000000 in
set_option maxRecDepth 100000 in
theorem cI_Da (l : Launch) (D : va_G) (h0 sz : Nat) : Met l (mY mI_Da) (mW mI_Da) { frames := 1, cells := 2, slots := 423, locals := 64 } (va_Pc [.ref h0] (fun U => U.heap.size = sz ∧ va_P D vwCl [(h0, .inr (0, [.null, .null, .int 0, .int 0, .int 0, .int 0]))] U.heap ∧ va_K D vwCl [] U ∧ va_D (fun _ => True) [(h0, .inr (0, [.null, .null, .int 0, .int 0, .int 0, .int 0]))])) (va_Qv (fun u : (Nat → Nat) × (Nat → ClassId) => u.1 0 = h0) (fun u t => va_P D vwCl (blkDa u.1 u.2) t.heap ∧ va_K D vwCl (tysDa u.2) t ∧ va_D (va_A [(h0, .inr (0, [.null, .null, .int 0, .int 0, .int 0, .int 0]))] sz) (blkDa u.1 u.2)) (va_A [(h0, .inr (0, [.null, .null, .int 0, .int 0, .int 0, .int 0]))] sz)) 2 423 (va_A [(h0, .inr (0, [.null, .null, .int 0, .int 0, .int 0, .int 0]))] sz) := by
  refine Met.ofW (cc := cX0_init) (maxL := 1) (ret := none) (by decide) rfl ?_
  intro p e s m args below meth c s₁ B hml hv
  obtain ⟨rfl, hsz, hP, hK, hD0⟩ := hv
  have hx := B.exec
  have hb := B.bytes
  have hr := B.returns
  have hts := atoms_spec (ws := mW mI_Da) B.pre
  have hts2 : ∀ w ∈ mTB, w.before #[Value.ref h0] s = true := fun w hw => hts w (List.mem_cons_of_mem _ hw)
  have hown : s.vm.findClass RX0 = some m.cls := findClass_of_methodNamed B.named
  have hlocks := B.notSynchronized
  have hin : meth.name = "<init>" := (name_of_methodNamed B.named B.method).1
  subst hsz
  have hD := hD0.self (sz := s.heap.size)
  generalize hAe : va_A [(h0, .inr (0, [.null, .null, .int 0, .int 0, .int 0, .int 0]))] s.heap.size = A at hD ⊢
  have hA : ∀ q : Nat, s.heap.size ≤ q → A q := fun q h => by rw [← hAe]; exact Or.inr h
  have hS : va_S A s.heap s.heap [] := va_S.rf
  have hl := lv_entry ([.ref h0]) (n := 1) (Nat.le_of_ble_eq_true rfl)
  rw [lg_entry_eq]
  generalize (lg_sl ([.ref h0]) ++ List.replicate (1 - (lg_sl ([.ref h0])).length) Slot.unset).toArray = ls at hl ⊢
  have hl : lv_has ls 1 [(0, .ref h0)] := hl
  obtain ⟨lay1, lay2, lay3, lay4⟩ := id (mLay (show vwCl[0]? = some (RX0, TX0, 6) from rfl))
  refine lv_aload_n hx hb dI_Da_0 rfl (lv_at hl 0 rfl) ?_
  refine W.objInit hx hb hown (hts (.methodLink RX0 5 objectInit) (List.mem_cons_of_mem _ (mTBm 1 239 rfl rfl))) (hts (.instanceMethod objectInit) (List.mem_cons_of_mem _ (mTBm 1 26 rfl rfl))) (hts (.code objectInit ⟨#[0xb1]⟩ 1 none) (List.mem_cons_of_mem _ (mTBm 1 27 rfl rfl))) rfl (by rw [hml]; exact hl.1) rfl dI_Da_1 (Nat.le_of_ble_eq_true rfl) (Nat.le_of_ble_eq_true rfl) ?_
  refine W.eq (g2 := F0 m 4 ls []) rfl ?_
  refine lv_aload_n hx hb dI_Da_4 rfl (lv_at hl 0 rfl) ?_
  refine lv_sipush hx hb dI_Da_5 (v := nI 420) rfl ?_
  refine va_newa (atype := .int) (a0 := (420, .inl (fun _ => 0))) (N' := 420) (ty := .int) hx hb (hts (.arrayClass .int) (List.mem_cons_of_mem _ (mTBm 1 48 rfl rfl))) rfl hK hP hD hS hA (ha_int 420) (nI_pos (by decide)) (nI_clamp (by decide)) (Nat.le_of_ble_eq_true rfl) (Nat.le_of_ble_eq_true rfl) (Nat.le_of_ble_eq_true rfl) dI_Da_8 (fun q1 c1 H hK hP hD hS => ?_)
  have hP : va_P D vwCl [(h0, .inr (0, [.null, .null, .int 0, .int 0, .int 0, .int 0])), (q1, .inl (c1, (420, .inl (fun _ => 0))))] H := hP
  have hD : va_D A [(h0, .inr (0, [.null, .null, .int 0, .int 0, .int 0, .int 0])), (q1, .inl (c1, (420, .inl (fun _ => 0))))] := hD
  have hK : va_K D vwCl [(c1, .int)] s := hK
  refine va_putF (D := D) (ci := 0) (v := .ref q1) (ty := (.array .int)) (C := RX0) (T := TX0) (N := 6) hx hb hts2 lay1 _ lay3 lay4 hown hK hP hD hS 0 rfl rfl 0 (by decide) (hts2 (.fieldLink RX0 11 RX0 "cells" "[I") (mTBm 2 0 rfl rfl)) (fun _ h9 => h9) rfl hin rfl (by decide +kernel) rfl rfl (Nat.le_of_ble_eq_true rfl) dI_Da_10 (fun H locs hP hD hS => ?_)
  have hP : va_P D vwCl [(h0, .inr (0, [.ref q1, .null, .int 0, .int 0, .int 0, .int 0])), (q1, .inl (c1, (420, .inl (fun _ => 0))))] H := hP
  have hD : va_D A [(h0, .inr (0, [.ref q1, .null, .int 0, .int 0, .int 0, .int 0])), (q1, .inl (c1, (420, .inl (fun _ => 0))))] := hD
  refine lv_aload_n hx hb dI_Da_13 rfl (lv_at hl 0 rfl) ?_
  refine lv_iconst hx hb dI_Da_14 (v := nI 3) rfl ?_
  refine va_newa (atype := .int) (a0 := (3, .inl (fun _ => 0))) (N' := 3) (ty := .int) hx hb (hts (.arrayClass .int) (List.mem_cons_of_mem _ (mTBm 1 48 rfl rfl))) rfl hK hP hD hS hA (ha_int 3) (nI_pos (by decide)) (nI_clamp (by decide)) (Nat.le_of_ble_eq_true rfl) (Nat.le_of_ble_eq_true rfl) (Nat.le_of_ble_eq_true rfl) dI_Da_15 (fun q2 c2 H hK hP hD hS => ?_)
  have hP : va_P D vwCl [(h0, .inr (0, [.ref q1, .null, .int 0, .int 0, .int 0, .int 0])), (q1, .inl (c1, (420, .inl (fun _ => 0)))), (q2, .inl (c2, (3, .inl (fun _ => 0))))] H := hP
  have hD : va_D A [(h0, .inr (0, [.ref q1, .null, .int 0, .int 0, .int 0, .int 0])), (q1, .inl (c1, (420, .inl (fun _ => 0)))), (q2, .inl (c2, (3, .inl (fun _ => 0))))] := hD
  have hK : va_K D vwCl [(c1, .int), (c2, .int)] s := hK
  refine va_putF (D := D) (ci := 0) (v := .ref q2) (ty := (.array .int)) (C := RX0) (T := TX0) (N := 6) hx hb hts2 lay1 _ lay3 lay4 hown hK hP hD hS 0 rfl rfl 1 (by decide) (hts2 (.fieldLink RX0 15 RX0 "begun" "[I") (mTBm 2 1 rfl rfl)) (fun _ h9 => h9) rfl hin rfl (by decide +kernel) rfl rfl (Nat.le_of_ble_eq_true rfl) dI_Da_17 (fun H locs hP hD hS => ?_)
  have hP : va_P D vwCl [(h0, .inr (0, [.ref q1, .ref q2, .int 0, .int 0, .int 0, .int 0])), (q1, .inl (c1, (420, .inl (fun _ => 0)))), (q2, .inl (c2, (3, .inl (fun _ => 0))))] H := hP
  have hD : va_D A [(h0, .inr (0, [.ref q1, .ref q2, .int 0, .int 0, .int 0, .int 0])), (q1, .inl (c1, (420, .inl (fun _ => 0)))), (q2, .inl (c2, (3, .inl (fun _ => 0))))] := hD
  refine W.widen (k := 2) (n := 423) (by decide) (by decide) ?_
  exact W.vret hx hb hr (fun t ht hW => ⟨⟨(fun i => ([h0, q1, q2] : List Nat).getD i 0, fun i => ([c1, c1, c2] : List ClassId).getD i c1), rfl, rfl, by rw [ht]; exact hP, va_K.moved hW.alike hK, hD⟩, hS.F ht⟩) hS.2.2 dI_Da_20
def mI_Pr : mM := (yX4_init, cX4_init, 1, none, 4)
def blkPr (ad : Nat → Nat) (cA : Nat → ClassId) : va_W := [(ad 0, .inr (4, [.ref (ad 1), .ref (ad 2), .ref (ad 3), .ref (ad 4), .ref (ad 5), .ref (ad 6), .ref (ad 7), .ref (ad 8), .int 0])), (ad 1, .inl (cA 1, (40, .inl (fun _ => 0)))), (ad 2, .inl (cA 2, (40, .inl (fun _ => 0)))), (ad 3, .inl (cA 3, (40, .inl (fun _ => 0)))), (ad 4, .inl (cA 4, (40, .inl (fun _ => 0)))), (ad 5, .inl (cA 5, (40, .inl (fun _ => 0)))), (ad 6, .inl (cA 6, (40, .inl (fun _ => 0)))), (ad 7, .inl (cA 7, (40, .inl (fun _ => 0)))), (ad 8, .inl (cA 8, (8, .inl (fun _ => 0))))]
def tysPr (cA : Nat → ClassId) : List (ClassId × FieldType) := [(cA 1, .int), (cA 2, .int), (cA 3, .int), (cA 4, .int), (cA 5, .int), (cA 6, .boolean), (cA 7, .int), (cA 8, .int)]
theorem dI_Pr_0 : decode cX4_init 0 = .ok (.aload_n 0, 1) := by decide +kernel
theorem dI_Pr_1 : decode cX4_init 1 = .ok (.invokespecial 3, 3) := by decide +kernel
theorem dI_Pr_4 : decode cX4_init 4 = .ok (.aload_n 0, 1) := by decide +kernel
theorem dI_Pr_5 : decode cX4_init 5 = .ok (.bipush 40, 2) := by decide +kernel
theorem dI_Pr_7 : decode cX4_init 7 = .ok (.newarray .int, 2) := by decide +kernel
theorem dI_Pr_9 : decode cX4_init 9 = .ok (.putfield 9, 3) := by decide +kernel
theorem dI_Pr_12 : decode cX4_init 12 = .ok (.aload_n 0, 1) := by decide +kernel
theorem dI_Pr_13 : decode cX4_init 13 = .ok (.bipush 40, 2) := by decide +kernel
theorem dI_Pr_15 : decode cX4_init 15 = .ok (.newarray .int, 2) := by decide +kernel
theorem dI_Pr_17 : decode cX4_init 17 = .ok (.putfield 15, 3) := by decide +kernel
theorem dI_Pr_20 : decode cX4_init 20 = .ok (.aload_n 0, 1) := by decide +kernel
theorem dI_Pr_21 : decode cX4_init 21 = .ok (.bipush 40, 2) := by decide +kernel
theorem dI_Pr_23 : decode cX4_init 23 = .ok (.newarray .int, 2) := by decide +kernel
theorem dI_Pr_25 : decode cX4_init 25 = .ok (.putfield 18, 3) := by decide +kernel
theorem dI_Pr_28 : decode cX4_init 28 = .ok (.aload_n 0, 1) := by decide +kernel
theorem dI_Pr_29 : decode cX4_init 29 = .ok (.bipush 40, 2) := by decide +kernel
theorem dI_Pr_31 : decode cX4_init 31 = .ok (.newarray .int, 2) := by decide +kernel
theorem dI_Pr_33 : decode cX4_init 33 = .ok (.putfield 21, 3) := by decide +kernel
theorem dI_Pr_36 : decode cX4_init 36 = .ok (.aload_n 0, 1) := by decide +kernel
theorem dI_Pr_37 : decode cX4_init 37 = .ok (.bipush 40, 2) := by decide +kernel
theorem dI_Pr_39 : decode cX4_init 39 = .ok (.newarray .int, 2) := by decide +kernel
theorem dI_Pr_41 : decode cX4_init 41 = .ok (.putfield 24, 3) := by decide +kernel
theorem dI_Pr_44 : decode cX4_init 44 = .ok (.aload_n 0, 1) := by decide +kernel
theorem dI_Pr_45 : decode cX4_init 45 = .ok (.bipush 40, 2) := by decide +kernel
theorem dI_Pr_47 : decode cX4_init 47 = .ok (.newarray .boolean, 2) := by decide +kernel
theorem dI_Pr_49 : decode cX4_init 49 = .ok (.putfield 27, 3) := by decide +kernel
theorem dI_Pr_52 : decode cX4_init 52 = .ok (.aload_n 0, 1) := by decide +kernel
theorem dI_Pr_53 : decode cX4_init 53 = .ok (.bipush 40, 2) := by decide +kernel
theorem dI_Pr_55 : decode cX4_init 55 = .ok (.newarray .int, 2) := by decide +kernel
theorem dI_Pr_57 : decode cX4_init 57 = .ok (.putfield 31, 3) := by decide +kernel
theorem dI_Pr_60 : decode cX4_init 60 = .ok (.aload_n 0, 1) := by decide +kernel
theorem dI_Pr_61 : decode cX4_init 61 = .ok (.bipush 8, 2) := by decide +kernel
theorem dI_Pr_63 : decode cX4_init 63 = .ok (.newarray .int, 2) := by decide +kernel
theorem dI_Pr_65 : decode cX4_init 65 = .ok (.putfield 34, 3) := by decide +kernel
theorem dI_Pr_68 : decode cX4_init 68 = .ok (.return_, 1) := by decide +kernel
set_option maxHeartbeats 4000000 in
set_option maxRecDepth 100000 in
theorem cI_Pr (l : Launch) (D : va_G) (h0 sz : Nat) : Met l (mY mI_Pr) (mW mI_Pr) { frames := 1, cells := 8, slots := 288, locals := 64 } (va_Pc [.ref h0] (fun U => U.heap.size = sz ∧ va_P D vwCl [(h0, .inr (4, [.null, .null, .null, .null, .null, .null, .null, .null, .int 0]))] U.heap ∧ va_K D vwCl [] U ∧ va_D (fun _ => True) [(h0, .inr (4, [.null, .null, .null, .null, .null, .null, .null, .null, .int 0]))])) (va_Qv (fun u : (Nat → Nat) × (Nat → ClassId) => u.1 0 = h0) (fun u t => va_P D vwCl (blkPr u.1 u.2) t.heap ∧ va_K D vwCl (tysPr u.2) t ∧ va_D (va_A [(h0, .inr (4, [.null, .null, .null, .null, .null, .null, .null, .null, .int 0]))] sz) (blkPr u.1 u.2)) (va_A [(h0, .inr (4, [.null, .null, .null, .null, .null, .null, .null, .null, .int 0]))] sz)) 8 288 (va_A [(h0, .inr (4, [.null, .null, .null, .null, .null, .null, .null, .null, .int 0]))] sz) := by
  refine Met.ofW (cc := cX4_init) (maxL := 1) (ret := none) (by decide) rfl ?_
  intro p e s m args below meth c s₁ B hml hv
  obtain ⟨rfl, hsz, hP, hK, hD0⟩ := hv
  have hx := B.exec
  have hb := B.bytes
  have hr := B.returns
  have hts := atoms_spec (ws := mW mI_Pr) B.pre
  have hts2 : ∀ w ∈ mTB, w.before #[Value.ref h0] s = true := fun w hw => hts w (List.mem_cons_of_mem _ hw)
  have hown : s.vm.findClass RX4 = some m.cls := findClass_of_methodNamed B.named
  have hlocks := B.notSynchronized
  have hin : meth.name = "<init>" := (name_of_methodNamed B.named B.method).1
  subst hsz
  have hD := hD0.self (sz := s.heap.size)
  generalize hAe : va_A [(h0, .inr (4, [.null, .null, .null, .null, .null, .null, .null, .null, .int 0]))] s.heap.size = A at hD ⊢
  have hA : ∀ q : Nat, s.heap.size ≤ q → A q := fun q h => by rw [← hAe]; exact Or.inr h
  have hS : va_S A s.heap s.heap [] := va_S.rf
  have hl := lv_entry ([.ref h0]) (n := 1) (Nat.le_of_ble_eq_true rfl)
  rw [lg_entry_eq]
  generalize (lg_sl ([.ref h0]) ++ List.replicate (1 - (lg_sl ([.ref h0])).length) Slot.unset).toArray = ls at hl ⊢
  have hl : lv_has ls 1 [(0, .ref h0)] := hl
  obtain ⟨lay1, lay2, lay3, lay4⟩ := id (mLay (show vwCl[4]? = some (RX4, TX4, 9) from rfl))
  refine lv_aload_n hx hb dI_Pr_0 rfl (lv_at hl 0 rfl) ?_
  refine W.objInit hx hb hown (hts (.methodLink RX4 3 objectInit) (List.mem_cons_of_mem _ (mTBm 1 179 rfl rfl))) (hts (.instanceMethod objectInit) (List.mem_cons_of_mem _ (mTBm 1 26 rfl rfl))) (hts (.code objectInit ⟨#[0xb1]⟩ 1 none) (List.mem_cons_of_mem _ (mTBm 1 27 rfl rfl))) rfl (by rw [hml]; exact hl.1) rfl dI_Pr_1 (Nat.le_of_ble_eq_true rfl) (Nat.le_of_ble_eq_true rfl) ?_
  refine W.eq (g2 := F0 m 4 ls []) rfl ?_
  refine lv_aload_n hx hb dI_Pr_4 rfl (lv_at hl 0 rfl) ?_
  refine lv_bipush hx hb dI_Pr_5 (v := nI 40) rfl ?_
  refine va_newa (atype := .int) (a0 := (40, .inl (fun _ => 0))) (N' := 40) (ty := .int) hx hb (hts (.arrayClass .int) (List.mem_cons_of_mem _ (mTBm 1 48 rfl rfl))) rfl hK hP hD hS hA (ha_int 40) (nI_pos (by decide)) (nI_clamp (by decide)) (Nat.le_of_ble_eq_true rfl) (Nat.le_of_ble_eq_true rfl) (Nat.le_of_ble_eq_true rfl) dI_Pr_7 (fun q1 c1 H hK hP hD hS => ?_)
  have hP : va_P D vwCl [(h0, .inr (4, [.null, .null, .null, .null, .null, .null, .null, .null, .int 0])), (q1, .inl (c1, (40, .inl (fun _ => 0))))] H := hP
  have hD : va_D A [(h0, .inr (4, [.null, .null, .null, .null, .null, .null, .null, .null, .int 0])), (q1, .inl (c1, (40, .inl (fun _ => 0))))] := hD
  have hK : va_K D vwCl [(c1, .int)] s := hK
  refine va_putF (D := D) (ci := 4) (v := .ref q1) (ty := (.array .int)) (C := RX4) (T := TX4) (N := 9) hx hb hts2 lay1 _ lay3 lay4 hown hK hP hD hS 0 rfl rfl 0 (by decide) (hts2 (.fieldLink RX4 9 RX4 "slices" "[I") (mTBm 1 180 rfl rfl)) (fun _ h9 => h9) rfl hin rfl (by decide +kernel) rfl rfl (Nat.le_of_ble_eq_true rfl) dI_Pr_9 (fun H locs hP hD hS => ?_)
  have hP : va_P D vwCl [(h0, .inr (4, [.ref q1, .null, .null, .null, .null, .null, .null, .null, .int 0])), (q1, .inl (c1, (40, .inl (fun _ => 0))))] H := hP
  have hD : va_D A [(h0, .inr (4, [.ref q1, .null, .null, .null, .null, .null, .null, .null, .int 0])), (q1, .inl (c1, (40, .inl (fun _ => 0))))] := hD
  refine lv_aload_n hx hb dI_Pr_12 rfl (lv_at hl 0 rfl) ?_
  refine lv_bipush hx hb dI_Pr_13 (v := nI 40) rfl ?_
  refine va_newa (atype := .int) (a0 := (40, .inl (fun _ => 0))) (N' := 40) (ty := .int) hx hb (hts (.arrayClass .int) (List.mem_cons_of_mem _ (mTBm 1 48 rfl rfl))) rfl hK hP hD hS hA (ha_int 40) (nI_pos (by decide)) (nI_clamp (by decide)) (Nat.le_of_ble_eq_true rfl) (Nat.le_of_ble_eq_true rfl) (Nat.le_of_ble_eq_true rfl) dI_Pr_15 (fun q2 c2 H hK hP hD hS => ?_)
  have hP : va_P D vwCl [(h0, .inr (4, [.ref q1, .null, .null, .null, .null, .null, .null, .null, .int 0])), (q1, .inl (c1, (40, .inl (fun _ => 0)))), (q2, .inl (c2, (40, .inl (fun _ => 0))))] H := hP
  have hD : va_D A [(h0, .inr (4, [.ref q1, .null, .null, .null, .null, .null, .null, .null, .int 0])), (q1, .inl (c1, (40, .inl (fun _ => 0)))), (q2, .inl (c2, (40, .inl (fun _ => 0))))] := hD
  have hK : va_K D vwCl [(c1, .int), (c2, .int)] s := hK
  refine va_putF (D := D) (ci := 4) (v := .ref q2) (ty := (.array .int)) (C := RX4) (T := TX4) (N := 9) hx hb hts2 lay1 _ lay3 lay4 hown hK hP hD hS 0 rfl rfl 1 (by decide) (hts2 (.fieldLink RX4 15 RX4 "loaf" "[I") (mTBm 1 184 rfl rfl)) (fun _ h9 => h9) rfl hin rfl (by decide +kernel) rfl rfl (Nat.le_of_ble_eq_true rfl) dI_Pr_17 (fun H locs hP hD hS => ?_)
  have hP : va_P D vwCl [(h0, .inr (4, [.ref q1, .ref q2, .null, .null, .null, .null, .null, .null, .int 0])), (q1, .inl (c1, (40, .inl (fun _ => 0)))), (q2, .inl (c2, (40, .inl (fun _ => 0))))] H := hP
  have hD : va_D A [(h0, .inr (4, [.ref q1, .ref q2, .null, .null, .null, .null, .null, .null, .int 0])), (q1, .inl (c1, (40, .inl (fun _ => 0)))), (q2, .inl (c2, (40, .inl (fun _ => 0))))] := hD
  refine lv_aload_n hx hb dI_Pr_20 rfl (lv_at hl 0 rfl) ?_
  refine lv_bipush hx hb dI_Pr_21 (v := nI 40) rfl ?_
  refine va_newa (atype := .int) (a0 := (40, .inl (fun _ => 0))) (N' := 40) (ty := .int) hx hb (hts (.arrayClass .int) (List.mem_cons_of_mem _ (mTBm 1 48 rfl rfl))) rfl hK hP hD hS hA (ha_int 40) (nI_pos (by decide)) (nI_clamp (by decide)) (Nat.le_of_ble_eq_true rfl) (Nat.le_of_ble_eq_true rfl) (Nat.le_of_ble_eq_true rfl) dI_Pr_23 (fun q3 c3 H hK hP hD hS => ?_)
  have hP : va_P D vwCl [(h0, .inr (4, [.ref q1, .ref q2, .null, .null, .null, .null, .null, .null, .int 0])), (q1, .inl (c1, (40, .inl (fun _ => 0)))), (q2, .inl (c2, (40, .inl (fun _ => 0)))), (q3, .inl (c3, (40, .inl (fun _ => 0))))] H := hP
  have hD : va_D A [(h0, .inr (4, [.ref q1, .ref q2, .null, .null, .null, .null, .null, .null, .int 0])), (q1, .inl (c1, (40, .inl (fun _ => 0)))), (q2, .inl (c2, (40, .inl (fun _ => 0)))), (q3, .inl (c3, (40, .inl (fun _ => 0))))] := hD
  have hK : va_K D vwCl [(c1, .int), (c2, .int), (c3, .int)] s := hK
  refine va_putF (D := D) (ci := 4) (v := .ref q3) (ty := (.array .int)) (C := RX4) (T := TX4) (N := 9) hx hb hts2 lay1 _ lay3 lay4 hown hK hP hD hS 0 rfl rfl 2 (by decide) (hts2 (.fieldLink RX4 18 RX4 "giver" "[I") (mTBm 1 188 rfl rfl)) (fun _ h9 => h9) rfl hin rfl (by decide +kernel) rfl rfl (Nat.le_of_ble_eq_true rfl) dI_Pr_25 (fun H locs hP hD hS => ?_)
  have hP : va_P D vwCl [(h0, .inr (4, [.ref q1, .ref q2, .ref q3, .null, .null, .null, .null, .null, .int 0])), (q1, .inl (c1, (40, .inl (fun _ => 0)))), (q2, .inl (c2, (40, .inl (fun _ => 0)))), (q3, .inl (c3, (40, .inl (fun _ => 0))))] H := hP
  have hD : va_D A [(h0, .inr (4, [.ref q1, .ref q2, .ref q3, .null, .null, .null, .null, .null, .int 0])), (q1, .inl (c1, (40, .inl (fun _ => 0)))), (q2, .inl (c2, (40, .inl (fun _ => 0)))), (q3, .inl (c3, (40, .inl (fun _ => 0))))] := hD
  refine lv_aload_n hx hb dI_Pr_28 rfl (lv_at hl 0 rfl) ?_
  refine lv_bipush hx hb dI_Pr_29 (v := nI 40) rfl ?_
  refine va_newa (atype := .int) (a0 := (40, .inl (fun _ => 0))) (N' := 40) (ty := .int) hx hb (hts (.arrayClass .int) (List.mem_cons_of_mem _ (mTBm 1 48 rfl rfl))) rfl hK hP hD hS hA (ha_int 40) (nI_pos (by decide)) (nI_clamp (by decide)) (Nat.le_of_ble_eq_true rfl) (Nat.le_of_ble_eq_true rfl) (Nat.le_of_ble_eq_true rfl) dI_Pr_31 (fun q4 c4 H hK hP hD hS => ?_)
  have hP : va_P D vwCl [(h0, .inr (4, [.ref q1, .ref q2, .ref q3, .null, .null, .null, .null, .null, .int 0])), (q1, .inl (c1, (40, .inl (fun _ => 0)))), (q2, .inl (c2, (40, .inl (fun _ => 0)))), (q3, .inl (c3, (40, .inl (fun _ => 0)))), (q4, .inl (c4, (40, .inl (fun _ => 0))))] H := hP
  have hD : va_D A [(h0, .inr (4, [.ref q1, .ref q2, .ref q3, .null, .null, .null, .null, .null, .int 0])), (q1, .inl (c1, (40, .inl (fun _ => 0)))), (q2, .inl (c2, (40, .inl (fun _ => 0)))), (q3, .inl (c3, (40, .inl (fun _ => 0)))), (q4, .inl (c4, (40, .inl (fun _ => 0))))] := hD
  have hK : va_K D vwCl [(c1, .int), (c2, .int), (c3, .int), (c4, .int)] s := hK
  refine va_putF (D := D) (ci := 4) (v := .ref q4) (ty := (.array .int)) (C := RX4) (T := TX4) (N := 9) hx hb hts2 lay1 _ lay3 lay4 hown hK hP hD hS 0 rfl rfl 3 (by decide) (hts2 (.fieldLink RX4 21 RX4 "taker" "[I") (mTBm 1 193 rfl rfl)) (fun _ h9 => h9) rfl hin rfl (by decide +kernel) rfl rfl (Nat.le_of_ble_eq_true rfl) dI_Pr_33 (fun H locs hP hD hS => ?_)
  have hP : va_P D vwCl [(h0, .inr (4, [.ref q1, .ref q2, .ref q3, .ref q4, .null, .null, .null, .null, .int 0])), (q1, .inl (c1, (40, .inl (fun _ => 0)))), (q2, .inl (c2, (40, .inl (fun _ => 0)))), (q3, .inl (c3, (40, .inl (fun _ => 0)))), (q4, .inl (c4, (40, .inl (fun _ => 0))))] H := hP
  have hD : va_D A [(h0, .inr (4, [.ref q1, .ref q2, .ref q3, .ref q4, .null, .null, .null, .null, .int 0])), (q1, .inl (c1, (40, .inl (fun _ => 0)))), (q2, .inl (c2, (40, .inl (fun _ => 0)))), (q3, .inl (c3, (40, .inl (fun _ => 0)))), (q4, .inl (c4, (40, .inl (fun _ => 0))))] := hD
  refine lv_aload_n hx hb dI_Pr_36 rfl (lv_at hl 0 rfl) ?_
  refine lv_bipush hx hb dI_Pr_37 (v := nI 40) rfl ?_
  refine va_newa (atype := .int) (a0 := (40, .inl (fun _ => 0))) (N' := 40) (ty := .int) hx hb (hts (.arrayClass .int) (List.mem_cons_of_mem _ (mTBm 1 48 rfl rfl))) rfl hK hP hD hS hA (ha_int 40) (nI_pos (by decide)) (nI_clamp (by decide)) (Nat.le_of_ble_eq_true rfl) (Nat.le_of_ble_eq_true rfl) (Nat.le_of_ble_eq_true rfl) dI_Pr_39 (fun q5 c5 H hK hP hD hS => ?_)
  have hP : va_P D vwCl [(h0, .inr (4, [.ref q1, .ref q2, .ref q3, .ref q4, .null, .null, .null, .null, .int 0])), (q1, .inl (c1, (40, .inl (fun _ => 0)))), (q2, .inl (c2, (40, .inl (fun _ => 0)))), (q3, .inl (c3, (40, .inl (fun _ => 0)))), (q4, .inl (c4, (40, .inl (fun _ => 0)))), (q5, .inl (c5, (40, .inl (fun _ => 0))))] H := hP
  have hD : va_D A [(h0, .inr (4, [.ref q1, .ref q2, .ref q3, .ref q4, .null, .null, .null, .null, .int 0])), (q1, .inl (c1, (40, .inl (fun _ => 0)))), (q2, .inl (c2, (40, .inl (fun _ => 0)))), (q3, .inl (c3, (40, .inl (fun _ => 0)))), (q4, .inl (c4, (40, .inl (fun _ => 0)))), (q5, .inl (c5, (40, .inl (fun _ => 0))))] := hD
  have hK : va_K D vwCl [(c1, .int), (c2, .int), (c3, .int), (c4, .int), (c5, .int)] s := hK
  refine va_putF (D := D) (ci := 4) (v := .ref q5) (ty := (.array .int)) (C := RX4) (T := TX4) (N := 9) hx hb hts2 lay1 _ lay3 lay4 hown hK hP hD hS 0 rfl rfl 4 (by decide) (hts2 (.fieldLink RX4 24 RX4 "price" "[I") (mTBm 1 198 rfl rfl)) (fun _ h9 => h9) rfl hin rfl (by decide +kernel) rfl rfl (Nat.le_of_ble_eq_true rfl) dI_Pr_41 (fun H locs hP hD hS => ?_)
  have hP : va_P D vwCl [(h0, .inr (4, [.ref q1, .ref q2, .ref q3, .ref q4, .ref q5, .null, .null, .null, .int 0])), (q1, .inl (c1, (40, .inl (fun _ => 0)))), (q2, .inl (c2, (40, .inl (fun _ => 0)))), (q3, .inl (c3, (40, .inl (fun _ => 0)))), (q4, .inl (c4, (40, .inl (fun _ => 0)))), (q5, .inl (c5, (40, .inl (fun _ => 0))))] H := hP
  have hD : va_D A [(h0, .inr (4, [.ref q1, .ref q2, .ref q3, .ref q4, .ref q5, .null, .null, .null, .int 0])), (q1, .inl (c1, (40, .inl (fun _ => 0)))), (q2, .inl (c2, (40, .inl (fun _ => 0)))), (q3, .inl (c3, (40, .inl (fun _ => 0)))), (q4, .inl (c4, (40, .inl (fun _ => 0)))), (q5, .inl (c5, (40, .inl (fun _ => 0))))] := hD
  refine lv_aload_n hx hb dI_Pr_44 rfl (lv_at hl 0 rfl) ?_
  refine lv_bipush hx hb dI_Pr_45 (v := nI 40) rfl ?_
  refine va_newa (atype := .boolean) (a0 := (40, .inl (fun _ => 0))) (N' := 40) (ty := .boolean) hx hb (hts (.arrayClass .boolean) (List.mem_cons_of_mem _ (mTBm 1 233 rfl rfl))) rfl hK hP hD hS hA (ha_boolean 40) (nI_pos (by decide)) (nI_clamp (by decide)) (Nat.le_of_ble_eq_true rfl) (Nat.le_of_ble_eq_true rfl) (Nat.le_of_ble_eq_true rfl) dI_Pr_47 (fun q6 c6 H hK hP hD hS => ?_)
  have hP : va_P D vwCl [(h0, .inr (4, [.ref q1, .ref q2, .ref q3, .ref q4, .ref q5, .null, .null, .null, .int 0])), (q1, .inl (c1, (40, .inl (fun _ => 0)))), (q2, .inl (c2, (40, .inl (fun _ => 0)))), (q3, .inl (c3, (40, .inl (fun _ => 0)))), (q4, .inl (c4, (40, .inl (fun _ => 0)))), (q5, .inl (c5, (40, .inl (fun _ => 0)))), (q6, .inl (c6, (40, .inl (fun _ => 0))))] H := hP
  have hD : va_D A [(h0, .inr (4, [.ref q1, .ref q2, .ref q3, .ref q4, .ref q5, .null, .null, .null, .int 0])), (q1, .inl (c1, (40, .inl (fun _ => 0)))), (q2, .inl (c2, (40, .inl (fun _ => 0)))), (q3, .inl (c3, (40, .inl (fun _ => 0)))), (q4, .inl (c4, (40, .inl (fun _ => 0)))), (q5, .inl (c5, (40, .inl (fun _ => 0)))), (q6, .inl (c6, (40, .inl (fun _ => 0))))] := hD
  have hK : va_K D vwCl [(c1, .int), (c2, .int), (c3, .int), (c4, .int), (c5, .int), (c6, .boolean)] s := hK
  refine va_putF (D := D) (ci := 4) (v := .ref q6) (ty := (.array .boolean)) (C := RX4) (T := TX4) (N := 9) hx hb hts2 lay1 _ lay3 lay4 hown hK hP hD hS 0 rfl rfl 5 (by decide) (hts2 (.fieldLink RX4 27 RX4 "gone" "[Z") (mTBm 1 201 rfl rfl)) (fun _ h9 => h9) rfl hin rfl (by decide +kernel) rfl rfl (Nat.le_of_ble_eq_true rfl) dI_Pr_49 (fun H locs hP hD hS => ?_)
  have hP : va_P D vwCl [(h0, .inr (4, [.ref q1, .ref q2, .ref q3, .ref q4, .ref q5, .ref q6, .null, .null, .int 0])), (q1, .inl (c1, (40, .inl (fun _ => 0)))), (q2, .inl (c2, (40, .inl (fun _ => 0)))), (q3, .inl (c3, (40, .inl (fun _ => 0)))), (q4, .inl (c4, (40, .inl (fun _ => 0)))), (q5, .inl (c5, (40, .inl (fun _ => 0)))), (q6, .inl (c6, (40, .inl (fun _ => 0))))] H := hP
  have hD : va_D A [(h0, .inr (4, [.ref q1, .ref q2, .ref q3, .ref q4, .ref q5, .ref q6, .null, .null, .int 0])), (q1, .inl (c1, (40, .inl (fun _ => 0)))), (q2, .inl (c2, (40, .inl (fun _ => 0)))), (q3, .inl (c3, (40, .inl (fun _ => 0)))), (q4, .inl (c4, (40, .inl (fun _ => 0)))), (q5, .inl (c5, (40, .inl (fun _ => 0)))), (q6, .inl (c6, (40, .inl (fun _ => 0))))] := hD
  refine lv_aload_n hx hb dI_Pr_52 rfl (lv_at hl 0 rfl) ?_
  refine lv_bipush hx hb dI_Pr_53 (v := nI 40) rfl ?_
  refine va_newa (atype := .int) (a0 := (40, .inl (fun _ => 0))) (N' := 40) (ty := .int) hx hb (hts (.arrayClass .int) (List.mem_cons_of_mem _ (mTBm 1 48 rfl rfl))) rfl hK hP hD hS hA (ha_int 40) (nI_pos (by decide)) (nI_clamp (by decide)) (Nat.le_of_ble_eq_true rfl) (Nat.le_of_ble_eq_true rfl) (Nat.le_of_ble_eq_true rfl) dI_Pr_55 (fun q7 c7 H hK hP hD hS => ?_)
  have hP : va_P D vwCl [(h0, .inr (4, [.ref q1, .ref q2, .ref q3, .ref q4, .ref q5, .ref q6, .null, .null, .int 0])), (q1, .inl (c1, (40, .inl (fun _ => 0)))), (q2, .inl (c2, (40, .inl (fun _ => 0)))), (q3, .inl (c3, (40, .inl (fun _ => 0)))), (q4, .inl (c4, (40, .inl (fun _ => 0)))), (q5, .inl (c5, (40, .inl (fun _ => 0)))), (q6, .inl (c6, (40, .inl (fun _ => 0)))), (q7, .inl (c7, (40, .inl (fun _ => 0))))] H := hP
  have hD : va_D A [(h0, .inr (4, [.ref q1, .ref q2, .ref q3, .ref q4, .ref q5, .ref q6, .null, .null, .int 0])), (q1, .inl (c1, (40, .inl (fun _ => 0)))), (q2, .inl (c2, (40, .inl (fun _ => 0)))), (q3, .inl (c3, (40, .inl (fun _ => 0)))), (q4, .inl (c4, (40, .inl (fun _ => 0)))), (q5, .inl (c5, (40, .inl (fun _ => 0)))), (q6, .inl (c6, (40, .inl (fun _ => 0)))), (q7, .inl (c7, (40, .inl (fun _ => 0))))] := hD
  have hK : va_K D vwCl [(c1, .int), (c2, .int), (c3, .int), (c4, .int), (c5, .int), (c6, .boolean), (c7, .int)] s := hK
  refine va_putF (D := D) (ci := 4) (v := .ref q7) (ty := (.array .int)) (C := RX4) (T := TX4) (N := 9) hx hb hts2 lay1 _ lay3 lay4 hown hK hP hD hS 0 rfl rfl 6 (by decide) (hts2 (.fieldLink RX4 31 RX4 "ownDepth" "[I") (mTBm 1 205 rfl rfl)) (fun _ h9 => h9) rfl hin rfl (by decide +kernel) rfl rfl (Nat.le_of_ble_eq_true rfl) dI_Pr_57 (fun H locs hP hD hS => ?_)
  have hP : va_P D vwCl [(h0, .inr (4, [.ref q1, .ref q2, .ref q3, .ref q4, .ref q5, .ref q6, .ref q7, .null, .int 0])), (q1, .inl (c1, (40, .inl (fun _ => 0)))), (q2, .inl (c2, (40, .inl (fun _ => 0)))), (q3, .inl (c3, (40, .inl (fun _ => 0)))), (q4, .inl (c4, (40, .inl (fun _ => 0)))), (q5, .inl (c5, (40, .inl (fun _ => 0)))), (q6, .inl (c6, (40, .inl (fun _ => 0)))), (q7, .inl (c7, (40, .inl (fun _ => 0))))] H := hP
  have hD : va_D A [(h0, .inr (4, [.ref q1, .ref q2, .ref q3, .ref q4, .ref q5, .ref q6, .ref q7, .null, .int 0])), (q1, .inl (c1, (40, .inl (fun _ => 0)))), (q2, .inl (c2, (40, .inl (fun _ => 0)))), (q3, .inl (c3, (40, .inl (fun _ => 0)))), (q4, .inl (c4, (40, .inl (fun _ => 0)))), (q5, .inl (c5, (40, .inl (fun _ => 0)))), (q6, .inl (c6, (40, .inl (fun _ => 0)))), (q7, .inl (c7, (40, .inl (fun _ => 0))))] := hD
  refine lv_aload_n hx hb dI_Pr_60 rfl (lv_at hl 0 rfl) ?_
  refine lv_bipush hx hb dI_Pr_61 (v := nI 8) rfl ?_
  refine va_newa (atype := .int) (a0 := (8, .inl (fun _ => 0))) (N' := 8) (ty := .int) hx hb (hts (.arrayClass .int) (List.mem_cons_of_mem _ (mTBm 1 48 rfl rfl))) rfl hK hP hD hS hA (ha_int 8) (nI_pos (by decide)) (nI_clamp (by decide)) (Nat.le_of_ble_eq_true rfl) (Nat.le_of_ble_eq_true rfl) (Nat.le_of_ble_eq_true rfl) dI_Pr_63 (fun q8 c8 H hK hP hD hS => ?_)
  have hP : va_P D vwCl [(h0, .inr (4, [.ref q1, .ref q2, .ref q3, .ref q4, .ref q5, .ref q6, .ref q7, .null, .int 0])), (q1, .inl (c1, (40, .inl (fun _ => 0)))), (q2, .inl (c2, (40, .inl (fun _ => 0)))), (q3, .inl (c3, (40, .inl (fun _ => 0)))), (q4, .inl (c4, (40, .inl (fun _ => 0)))), (q5, .inl (c5, (40, .inl (fun _ => 0)))), (q6, .inl (c6, (40, .inl (fun _ => 0)))), (q7, .inl (c7, (40, .inl (fun _ => 0)))), (q8, .inl (c8, (8, .inl (fun _ => 0))))] H := hP
  have hD : va_D A [(h0, .inr (4, [.ref q1, .ref q2, .ref q3, .ref q4, .ref q5, .ref q6, .ref q7, .null, .int 0])), (q1, .inl (c1, (40, .inl (fun _ => 0)))), (q2, .inl (c2, (40, .inl (fun _ => 0)))), (q3, .inl (c3, (40, .inl (fun _ => 0)))), (q4, .inl (c4, (40, .inl (fun _ => 0)))), (q5, .inl (c5, (40, .inl (fun _ => 0)))), (q6, .inl (c6, (40, .inl (fun _ => 0)))), (q7, .inl (c7, (40, .inl (fun _ => 0)))), (q8, .inl (c8, (8, .inl (fun _ => 0))))] := hD
  have hK : va_K D vwCl [(c1, .int), (c2, .int), (c3, .int), (c4, .int), (c5, .int), (c6, .boolean), (c7, .int), (c8, .int)] s := hK
  refine va_putF (D := D) (ci := 4) (v := .ref q8) (ty := (.array .int)) (C := RX4) (T := TX4) (N := 9) hx hb hts2 lay1 _ lay3 lay4 hown hK hP hD hS 0 rfl rfl 7 (by decide) (hts2 (.fieldLink RX4 34 RX4 "reached" "[I") (mTBm 1 207 rfl rfl)) (fun _ h9 => h9) rfl hin rfl (by decide +kernel) rfl rfl (Nat.le_of_ble_eq_true rfl) dI_Pr_65 (fun H locs hP hD hS => ?_)
  have hP : va_P D vwCl [(h0, .inr (4, [.ref q1, .ref q2, .ref q3, .ref q4, .ref q5, .ref q6, .ref q7, .ref q8, .int 0])), (q1, .inl (c1, (40, .inl (fun _ => 0)))), (q2, .inl (c2, (40, .inl (fun _ => 0)))), (q3, .inl (c3, (40, .inl (fun _ => 0)))), (q4, .inl (c4, (40, .inl (fun _ => 0)))), (q5, .inl (c5, (40, .inl (fun _ => 0)))), (q6, .inl (c6, (40, .inl (fun _ => 0)))), (q7, .inl (c7, (40, .inl (fun _ => 0)))), (q8, .inl (c8, (8, .inl (fun _ => 0))))] H := hP
  have hD : va_D A [(h0, .inr (4, [.ref q1, .ref q2, .ref q3, .ref q4, .ref q5, .ref q6, .ref q7, .ref q8, .int 0])), (q1, .inl (c1, (40, .inl (fun _ => 0)))), (q2, .inl (c2, (40, .inl (fun _ => 0)))), (q3, .inl (c3, (40, .inl (fun _ => 0)))), (q4, .inl (c4, (40, .inl (fun _ => 0)))), (q5, .inl (c5, (40, .inl (fun _ => 0)))), (q6, .inl (c6, (40, .inl (fun _ => 0)))), (q7, .inl (c7, (40, .inl (fun _ => 0)))), (q8, .inl (c8, (8, .inl (fun _ => 0))))] := hD
  refine W.widen (k := 8) (n := 288) (by decide) (by decide) ?_
  exact W.vret hx hb hr (fun t ht hW => ⟨⟨(fun i => ([h0, q1, q2, q3, q4, q5, q6, q7, q8] : List Nat).getD i 0, fun i => ([c1, c1, c2, c3, c4, c5, c6, c7, c8] : List ClassId).getD i c1), rfl, rfl, by rw [ht]; exact hP, va_K.moved hW.alike hK, hD⟩, hS.F ht⟩) hS.2.2 dI_Pr_68
def mI_Sh : mM := (yX5_init, cX5_init, 1, none, 5)
def blkSh (ad : Nat → Nat) (cA : Nat → ClassId) : va_W := [(ad 0, .inr (5, [.ref (ad 1), .ref (ad 2), .ref (ad 3), .ref (ad 4), .ref (ad 5), .ref (ad 6), .int 0])), (ad 1, .inl (cA 1, (8, .inl (fun _ => 0)))), (ad 2, .inl (cA 2, (8, .inl (fun _ => 0)))), (ad 3, .inl (cA 3, (8, .inl (fun _ => 0)))), (ad 4, .inl (cA 4, (8, .inl (fun _ => 0)))), (ad 5, .inl (cA 5, (8, .inl (fun _ => 0)))), (ad 6, .inl (cA 6, (8, .inl (fun _ => 0))))]
def tysSh (cA : Nat → ClassId) : List (ClassId × FieldType) := [(cA 1, .int), (cA 2, .int), (cA 3, .int), (cA 4, .int), (cA 5, .int), (cA 6, .int)]
theorem dI_Sh_0 : decode cX5_init 0 = .ok (.aload_n 0, 1) := by decide +kernel
theorem dI_Sh_1 : decode cX5_init 1 = .ok (.invokespecial 3, 3) := by decide +kernel
theorem dI_Sh_4 : decode cX5_init 4 = .ok (.aload_n 0, 1) := by decide +kernel
theorem dI_Sh_5 : decode cX5_init 5 = .ok (.bipush 8, 2) := by decide +kernel
theorem dI_Sh_7 : decode cX5_init 7 = .ok (.newarray .int, 2) := by decide +kernel
theorem dI_Sh_9 : decode cX5_init 9 = .ok (.putfield 9, 3) := by decide +kernel
theorem dI_Sh_12 : decode cX5_init 12 = .ok (.aload_n 0, 1) := by decide +kernel
theorem dI_Sh_13 : decode cX5_init 13 = .ok (.bipush 8, 2) := by decide +kernel
theorem dI_Sh_15 : decode cX5_init 15 = .ok (.newarray .int, 2) := by decide +kernel
theorem dI_Sh_17 : decode cX5_init 17 = .ok (.putfield 15, 3) := by decide +kernel
theorem dI_Sh_20 : decode cX5_init 20 = .ok (.aload_n 0, 1) := by decide +kernel
theorem dI_Sh_21 : decode cX5_init 21 = .ok (.bipush 8, 2) := by decide +kernel
theorem dI_Sh_23 : decode cX5_init 23 = .ok (.newarray .int, 2) := by decide +kernel
theorem dI_Sh_25 : decode cX5_init 25 = .ok (.putfield 18, 3) := by decide +kernel
theorem dI_Sh_28 : decode cX5_init 28 = .ok (.aload_n 0, 1) := by decide +kernel
theorem dI_Sh_29 : decode cX5_init 29 = .ok (.bipush 8, 2) := by decide +kernel
theorem dI_Sh_31 : decode cX5_init 31 = .ok (.newarray .int, 2) := by decide +kernel
theorem dI_Sh_33 : decode cX5_init 33 = .ok (.putfield 21, 3) := by decide +kernel
theorem dI_Sh_36 : decode cX5_init 36 = .ok (.aload_n 0, 1) := by decide +kernel
theorem dI_Sh_37 : decode cX5_init 37 = .ok (.bipush 8, 2) := by decide +kernel
theorem dI_Sh_39 : decode cX5_init 39 = .ok (.newarray .int, 2) := by decide +kernel
theorem dI_Sh_41 : decode cX5_init 41 = .ok (.putfield 24, 3) := by decide +kernel
theorem dI_Sh_44 : decode cX5_init 44 = .ok (.aload_n 0, 1) := by decide +kernel
theorem dI_Sh_45 : decode cX5_init 45 = .ok (.bipush 8, 2) := by decide +kernel
theorem dI_Sh_47 : decode cX5_init 47 = .ok (.newarray .int, 2) := by decide +kernel
theorem dI_Sh_49 : decode cX5_init 49 = .ok (.putfield 27, 3) := by decide +kernel
theorem dI_Sh_52 : decode cX5_init 52 = .ok (.return_, 1) := by decide +kernel
set_option maxHeartbeats 4000000 in
set_option maxRecDepth 100000 in
theorem cI_Sh (l : Launch) (D : va_G) (h0 sz : Nat) : Met l (mY mI_Sh) (mW mI_Sh) { frames := 1, cells := 6, slots := 48, locals := 64 } (va_Pc [.ref h0] (fun U => U.heap.size = sz ∧ va_P D vwCl [(h0, .inr (5, [.null, .null, .null, .null, .null, .null, .int 0]))] U.heap ∧ va_K D vwCl [] U ∧ va_D (fun _ => True) [(h0, .inr (5, [.null, .null, .null, .null, .null, .null, .int 0]))])) (va_Qv (fun u : (Nat → Nat) × (Nat → ClassId) => u.1 0 = h0) (fun u t => va_P D vwCl (blkSh u.1 u.2) t.heap ∧ va_K D vwCl (tysSh u.2) t ∧ va_D (va_A [(h0, .inr (5, [.null, .null, .null, .null, .null, .null, .int 0]))] sz) (blkSh u.1 u.2)) (va_A [(h0, .inr (5, [.null, .null, .null, .null, .null, .null, .int 0]))] sz)) 6 48 (va_A [(h0, .inr (5, [.null, .null, .null, .null, .null, .null, .int 0]))] sz) := by
  refine Met.ofW (cc := cX5_init) (maxL := 1) (ret := none) (by decide) rfl ?_
  intro p e s m args below meth c s₁ B hml hv
  obtain ⟨rfl, hsz, hP, hK, hD0⟩ := hv
  have hx := B.exec
  have hb := B.bytes
  have hr := B.returns
  have hts := atoms_spec (ws := mW mI_Sh) B.pre
  have hts2 : ∀ w ∈ mTB, w.before #[Value.ref h0] s = true := fun w hw => hts w (List.mem_cons_of_mem _ hw)
  have hown : s.vm.findClass RX5 = some m.cls := findClass_of_methodNamed B.named
  have hlocks := B.notSynchronized
  have hin : meth.name = "<init>" := (name_of_methodNamed B.named B.method).1
  subst hsz
  have hD := hD0.self (sz := s.heap.size)
  generalize hAe : va_A [(h0, .inr (5, [.null, .null, .null, .null, .null, .null, .int 0]))] s.heap.size = A at hD ⊢
  have hA : ∀ q : Nat, s.heap.size ≤ q → A q := fun q h => by rw [← hAe]; exact Or.inr h
  have hS : va_S A s.heap s.heap [] := va_S.rf
  have hl := lv_entry ([.ref h0]) (n := 1) (Nat.le_of_ble_eq_true rfl)
  rw [lg_entry_eq]
  generalize (lg_sl ([.ref h0]) ++ List.replicate (1 - (lg_sl ([.ref h0])).length) Slot.unset).toArray = ls at hl ⊢
  have hl : lv_has ls 1 [(0, .ref h0)] := hl
  obtain ⟨lay1, lay2, lay3, lay4⟩ := id (mLay (show vwCl[5]? = some (RX5, TX5, 7) from rfl))
  refine lv_aload_n hx hb dI_Sh_0 rfl (lv_at hl 0 rfl) ?_
  refine W.objInit hx hb hown (hts (.methodLink RX5 3 objectInit) (List.mem_cons_of_mem _ (mTBm 2 124 rfl rfl))) (hts (.instanceMethod objectInit) (List.mem_cons_of_mem _ (mTBm 1 26 rfl rfl))) (hts (.code objectInit ⟨#[0xb1]⟩ 1 none) (List.mem_cons_of_mem _ (mTBm 1 27 rfl rfl))) rfl (by rw [hml]; exact hl.1) rfl dI_Sh_1 (Nat.le_of_ble_eq_true rfl) (Nat.le_of_ble_eq_true rfl) ?_
  refine W.eq (g2 := F0 m 4 ls []) rfl ?_
  refine lv_aload_n hx hb dI_Sh_4 rfl (lv_at hl 0 rfl) ?_
  refine lv_bipush hx hb dI_Sh_5 (v := nI 8) rfl ?_
  refine va_newa (atype := .int) (a0 := (8, .inl (fun _ => 0))) (N' := 8) (ty := .int) hx hb (hts (.arrayClass .int) (List.mem_cons_of_mem _ (mTBm 1 48 rfl rfl))) rfl hK hP hD hS hA (ha_int 8) (nI_pos (by decide)) (nI_clamp (by decide)) (Nat.le_of_ble_eq_true rfl) (Nat.le_of_ble_eq_true rfl) (Nat.le_of_ble_eq_true rfl) dI_Sh_7 (fun q1 c1 H hK hP hD hS => ?_)
  have hP : va_P D vwCl [(h0, .inr (5, [.null, .null, .null, .null, .null, .null, .int 0])), (q1, .inl (c1, (8, .inl (fun _ => 0))))] H := hP
  have hD : va_D A [(h0, .inr (5, [.null, .null, .null, .null, .null, .null, .int 0])), (q1, .inl (c1, (8, .inl (fun _ => 0))))] := hD
  have hK : va_K D vwCl [(c1, .int)] s := hK
  refine va_putF (D := D) (ci := 5) (v := .ref q1) (ty := (.array .int)) (C := RX5) (T := TX5) (N := 7) hx hb hts2 lay1 _ lay3 lay4 hown hK hP hD hS 0 rfl rfl 0 (by decide) (hts2 (.fieldLink RX5 9 RX5 "held" "[I") (mTBm 2 125 rfl rfl)) (fun _ h9 => h9) rfl hin rfl (by decide +kernel) rfl rfl (Nat.le_of_ble_eq_true rfl) dI_Sh_9 (fun H locs hP hD hS => ?_)
  have hP : va_P D vwCl [(h0, .inr (5, [.ref q1, .null, .null, .null, .null, .null, .int 0])), (q1, .inl (c1, (8, .inl (fun _ => 0))))] H := hP
  have hD : va_D A [(h0, .inr (5, [.ref q1, .null, .null, .null, .null, .null, .int 0])), (q1, .inl (c1, (8, .inl (fun _ => 0))))] := hD
  refine lv_aload_n hx hb dI_Sh_12 rfl (lv_at hl 0 rfl) ?_
  refine lv_bipush hx hb dI_Sh_13 (v := nI 8) rfl ?_
  refine va_newa (atype := .int) (a0 := (8, .inl (fun _ => 0))) (N' := 8) (ty := .int) hx hb (hts (.arrayClass .int) (List.mem_cons_of_mem _ (mTBm 1 48 rfl rfl))) rfl hK hP hD hS hA (ha_int 8) (nI_pos (by decide)) (nI_clamp (by decide)) (Nat.le_of_ble_eq_true rfl) (Nat.le_of_ble_eq_true rfl) (Nat.le_of_ble_eq_true rfl) dI_Sh_15 (fun q2 c2 H hK hP hD hS => ?_)
  have hP : va_P D vwCl [(h0, .inr (5, [.ref q1, .null, .null, .null, .null, .null, .int 0])), (q1, .inl (c1, (8, .inl (fun _ => 0)))), (q2, .inl (c2, (8, .inl (fun _ => 0))))] H := hP
  have hD : va_D A [(h0, .inr (5, [.ref q1, .null, .null, .null, .null, .null, .int 0])), (q1, .inl (c1, (8, .inl (fun _ => 0)))), (q2, .inl (c2, (8, .inl (fun _ => 0))))] := hD
  have hK : va_K D vwCl [(c1, .int), (c2, .int)] s := hK
  refine va_putF (D := D) (ci := 5) (v := .ref q2) (ty := (.array .int)) (C := RX5) (T := TX5) (N := 7) hx hb hts2 lay1 _ lay3 lay4 hown hK hP hD hS 0 rfl rfl 1 (by decide) (hts2 (.fieldLink RX5 15 RX5 "since" "[I") (mTBm 2 127 rfl rfl)) (fun _ h9 => h9) rfl hin rfl (by decide +kernel) rfl rfl (Nat.le_of_ble_eq_true rfl) dI_Sh_17 (fun H locs hP hD hS => ?_)
  have hP : va_P D vwCl [(h0, .inr (5, [.ref q1, .ref q2, .null, .null, .null, .null, .int 0])), (q1, .inl (c1, (8, .inl (fun _ => 0)))), (q2, .inl (c2, (8, .inl (fun _ => 0))))] H := hP
  have hD : va_D A [(h0, .inr (5, [.ref q1, .ref q2, .null, .null, .null, .null, .int 0])), (q1, .inl (c1, (8, .inl (fun _ => 0)))), (q2, .inl (c2, (8, .inl (fun _ => 0))))] := hD
  refine lv_aload_n hx hb dI_Sh_20 rfl (lv_at hl 0 rfl) ?_
  refine lv_bipush hx hb dI_Sh_21 (v := nI 8) rfl ?_
  refine va_newa (atype := .int) (a0 := (8, .inl (fun _ => 0))) (N' := 8) (ty := .int) hx hb (hts (.arrayClass .int) (List.mem_cons_of_mem _ (mTBm 1 48 rfl rfl))) rfl hK hP hD hS hA (ha_int 8) (nI_pos (by decide)) (nI_clamp (by decide)) (Nat.le_of_ble_eq_true rfl) (Nat.le_of_ble_eq_true rfl) (Nat.le_of_ble_eq_true rfl) dI_Sh_23 (fun q3 c3 H hK hP hD hS => ?_)
  have hP : va_P D vwCl [(h0, .inr (5, [.ref q1, .ref q2, .null, .null, .null, .null, .int 0])), (q1, .inl (c1, (8, .inl (fun _ => 0)))), (q2, .inl (c2, (8, .inl (fun _ => 0)))), (q3, .inl (c3, (8, .inl (fun _ => 0))))] H := hP
  have hD : va_D A [(h0, .inr (5, [.ref q1, .ref q2, .null, .null, .null, .null, .int 0])), (q1, .inl (c1, (8, .inl (fun _ => 0)))), (q2, .inl (c2, (8, .inl (fun _ => 0)))), (q3, .inl (c3, (8, .inl (fun _ => 0))))] := hD
  have hK : va_K D vwCl [(c1, .int), (c2, .int), (c3, .int)] s := hK
  refine va_putF (D := D) (ci := 5) (v := .ref q3) (ty := (.array .int)) (C := RX5) (T := TX5) (N := 7) hx hb hts2 lay1 _ lay3 lay4 hown hK hP hD hS 0 rfl rfl 2 (by decide) (hts2 (.fieldLink RX5 18 RX5 "queue" "[I") (mTBm 2 129 rfl rfl)) (fun _ h9 => h9) rfl hin rfl (by decide +kernel) rfl rfl (Nat.le_of_ble_eq_true rfl) dI_Sh_25 (fun H locs hP hD hS => ?_)
  have hP : va_P D vwCl [(h0, .inr (5, [.ref q1, .ref q2, .ref q3, .null, .null, .null, .int 0])), (q1, .inl (c1, (8, .inl (fun _ => 0)))), (q2, .inl (c2, (8, .inl (fun _ => 0)))), (q3, .inl (c3, (8, .inl (fun _ => 0))))] H := hP
  have hD : va_D A [(h0, .inr (5, [.ref q1, .ref q2, .ref q3, .null, .null, .null, .int 0])), (q1, .inl (c1, (8, .inl (fun _ => 0)))), (q2, .inl (c2, (8, .inl (fun _ => 0)))), (q3, .inl (c3, (8, .inl (fun _ => 0))))] := hD
  refine lv_aload_n hx hb dI_Sh_28 rfl (lv_at hl 0 rfl) ?_
  refine lv_bipush hx hb dI_Sh_29 (v := nI 8) rfl ?_
  refine va_newa (atype := .int) (a0 := (8, .inl (fun _ => 0))) (N' := 8) (ty := .int) hx hb (hts (.arrayClass .int) (List.mem_cons_of_mem _ (mTBm 1 48 rfl rfl))) rfl hK hP hD hS hA (ha_int 8) (nI_pos (by decide)) (nI_clamp (by decide)) (Nat.le_of_ble_eq_true rfl) (Nat.le_of_ble_eq_true rfl) (Nat.le_of_ble_eq_true rfl) dI_Sh_31 (fun q4 c4 H hK hP hD hS => ?_)
  have hP : va_P D vwCl [(h0, .inr (5, [.ref q1, .ref q2, .ref q3, .null, .null, .null, .int 0])), (q1, .inl (c1, (8, .inl (fun _ => 0)))), (q2, .inl (c2, (8, .inl (fun _ => 0)))), (q3, .inl (c3, (8, .inl (fun _ => 0)))), (q4, .inl (c4, (8, .inl (fun _ => 0))))] H := hP
  have hD : va_D A [(h0, .inr (5, [.ref q1, .ref q2, .ref q3, .null, .null, .null, .int 0])), (q1, .inl (c1, (8, .inl (fun _ => 0)))), (q2, .inl (c2, (8, .inl (fun _ => 0)))), (q3, .inl (c3, (8, .inl (fun _ => 0)))), (q4, .inl (c4, (8, .inl (fun _ => 0))))] := hD
  have hK : va_K D vwCl [(c1, .int), (c2, .int), (c3, .int), (c4, .int)] s := hK
  refine va_putF (D := D) (ci := 5) (v := .ref q4) (ty := (.array .int)) (C := RX5) (T := TX5) (N := 7) hx hb hts2 lay1 _ lay3 lay4 hown hK hP hD hS 0 rfl rfl 3 (by decide) (hts2 (.fieldLink RX5 21 RX5 "got" "[I") (mTBm 2 131 rfl rfl)) (fun _ h9 => h9) rfl hin rfl (by decide +kernel) rfl rfl (Nat.le_of_ble_eq_true rfl) dI_Sh_33 (fun H locs hP hD hS => ?_)
  have hP : va_P D vwCl [(h0, .inr (5, [.ref q1, .ref q2, .ref q3, .ref q4, .null, .null, .int 0])), (q1, .inl (c1, (8, .inl (fun _ => 0)))), (q2, .inl (c2, (8, .inl (fun _ => 0)))), (q3, .inl (c3, (8, .inl (fun _ => 0)))), (q4, .inl (c4, (8, .inl (fun _ => 0))))] H := hP
  have hD : va_D A [(h0, .inr (5, [.ref q1, .ref q2, .ref q3, .ref q4, .null, .null, .int 0])), (q1, .inl (c1, (8, .inl (fun _ => 0)))), (q2, .inl (c2, (8, .inl (fun _ => 0)))), (q3, .inl (c3, (8, .inl (fun _ => 0)))), (q4, .inl (c4, (8, .inl (fun _ => 0))))] := hD
  refine lv_aload_n hx hb dI_Sh_36 rfl (lv_at hl 0 rfl) ?_
  refine lv_bipush hx hb dI_Sh_37 (v := nI 8) rfl ?_
  refine va_newa (atype := .int) (a0 := (8, .inl (fun _ => 0))) (N' := 8) (ty := .int) hx hb (hts (.arrayClass .int) (List.mem_cons_of_mem _ (mTBm 1 48 rfl rfl))) rfl hK hP hD hS hA (ha_int 8) (nI_pos (by decide)) (nI_clamp (by decide)) (Nat.le_of_ble_eq_true rfl) (Nat.le_of_ble_eq_true rfl) (Nat.le_of_ble_eq_true rfl) dI_Sh_39 (fun q5 c5 H hK hP hD hS => ?_)
  have hP : va_P D vwCl [(h0, .inr (5, [.ref q1, .ref q2, .ref q3, .ref q4, .null, .null, .int 0])), (q1, .inl (c1, (8, .inl (fun _ => 0)))), (q2, .inl (c2, (8, .inl (fun _ => 0)))), (q3, .inl (c3, (8, .inl (fun _ => 0)))), (q4, .inl (c4, (8, .inl (fun _ => 0)))), (q5, .inl (c5, (8, .inl (fun _ => 0))))] H := hP
  have hD : va_D A [(h0, .inr (5, [.ref q1, .ref q2, .ref q3, .ref q4, .null, .null, .int 0])), (q1, .inl (c1, (8, .inl (fun _ => 0)))), (q2, .inl (c2, (8, .inl (fun _ => 0)))), (q3, .inl (c3, (8, .inl (fun _ => 0)))), (q4, .inl (c4, (8, .inl (fun _ => 0)))), (q5, .inl (c5, (8, .inl (fun _ => 0))))] := hD
  have hK : va_K D vwCl [(c1, .int), (c2, .int), (c3, .int), (c4, .int), (c5, .int)] s := hK
  refine va_putF (D := D) (ci := 5) (v := .ref q5) (ty := (.array .int)) (C := RX5) (T := TX5) (N := 7) hx hb hts2 lay1 _ lay3 lay4 hown hK hP hD hS 0 rfl rfl 4 (by decide) (hts2 (.fieldLink RX5 24 RX5 "disgrace" "[I") (mTBm 2 134 rfl rfl)) (fun _ h9 => h9) rfl hin rfl (by decide +kernel) rfl rfl (Nat.le_of_ble_eq_true rfl) dI_Sh_41 (fun H locs hP hD hS => ?_)
  have hP : va_P D vwCl [(h0, .inr (5, [.ref q1, .ref q2, .ref q3, .ref q4, .ref q5, .null, .int 0])), (q1, .inl (c1, (8, .inl (fun _ => 0)))), (q2, .inl (c2, (8, .inl (fun _ => 0)))), (q3, .inl (c3, (8, .inl (fun _ => 0)))), (q4, .inl (c4, (8, .inl (fun _ => 0)))), (q5, .inl (c5, (8, .inl (fun _ => 0))))] H := hP
  have hD : va_D A [(h0, .inr (5, [.ref q1, .ref q2, .ref q3, .ref q4, .ref q5, .null, .int 0])), (q1, .inl (c1, (8, .inl (fun _ => 0)))), (q2, .inl (c2, (8, .inl (fun _ => 0)))), (q3, .inl (c3, (8, .inl (fun _ => 0)))), (q4, .inl (c4, (8, .inl (fun _ => 0)))), (q5, .inl (c5, (8, .inl (fun _ => 0))))] := hD
  refine lv_aload_n hx hb dI_Sh_44 rfl (lv_at hl 0 rfl) ?_
  refine lv_bipush hx hb dI_Sh_45 (v := nI 8) rfl ?_
  refine va_newa (atype := .int) (a0 := (8, .inl (fun _ => 0))) (N' := 8) (ty := .int) hx hb (hts (.arrayClass .int) (List.mem_cons_of_mem _ (mTBm 1 48 rfl rfl))) rfl hK hP hD hS hA (ha_int 8) (nI_pos (by decide)) (nI_clamp (by decide)) (Nat.le_of_ble_eq_true rfl) (Nat.le_of_ble_eq_true rfl) (Nat.le_of_ble_eq_true rfl) dI_Sh_47 (fun q6 c6 H hK hP hD hS => ?_)
  have hP : va_P D vwCl [(h0, .inr (5, [.ref q1, .ref q2, .ref q3, .ref q4, .ref q5, .null, .int 0])), (q1, .inl (c1, (8, .inl (fun _ => 0)))), (q2, .inl (c2, (8, .inl (fun _ => 0)))), (q3, .inl (c3, (8, .inl (fun _ => 0)))), (q4, .inl (c4, (8, .inl (fun _ => 0)))), (q5, .inl (c5, (8, .inl (fun _ => 0)))), (q6, .inl (c6, (8, .inl (fun _ => 0))))] H := hP
  have hD : va_D A [(h0, .inr (5, [.ref q1, .ref q2, .ref q3, .ref q4, .ref q5, .null, .int 0])), (q1, .inl (c1, (8, .inl (fun _ => 0)))), (q2, .inl (c2, (8, .inl (fun _ => 0)))), (q3, .inl (c3, (8, .inl (fun _ => 0)))), (q4, .inl (c4, (8, .inl (fun _ => 0)))), (q5, .inl (c5, (8, .inl (fun _ => 0)))), (q6, .inl (c6, (8, .inl (fun _ => 0))))] := hD
  have hK : va_K D vwCl [(c1, .int), (c2, .int), (c3, .int), (c4, .int), (c5, .int), (c6, .int)] s := hK
  refine va_putF (D := D) (ci := 5) (v := .ref q6) (ty := (.array .int)) (C := RX5) (T := TX5) (N := 7) hx hb hts2 lay1 _ lay3 lay4 hown hK hP hD hS 0 rfl rfl 5 (by decide) (hts2 (.fieldLink RX5 27 RX5 "fromLoaf" "[I") (mTBm 2 137 rfl rfl)) (fun _ h9 => h9) rfl hin rfl (by decide +kernel) rfl rfl (Nat.le_of_ble_eq_true rfl) dI_Sh_49 (fun H locs hP hD hS => ?_)
  have hP : va_P D vwCl [(h0, .inr (5, [.ref q1, .ref q2, .ref q3, .ref q4, .ref q5, .ref q6, .int 0])), (q1, .inl (c1, (8, .inl (fun _ => 0)))), (q2, .inl (c2, (8, .inl (fun _ => 0)))), (q3, .inl (c3, (8, .inl (fun _ => 0)))), (q4, .inl (c4, (8, .inl (fun _ => 0)))), (q5, .inl (c5, (8, .inl (fun _ => 0)))), (q6, .inl (c6, (8, .inl (fun _ => 0))))] H := hP
  have hD : va_D A [(h0, .inr (5, [.ref q1, .ref q2, .ref q3, .ref q4, .ref q5, .ref q6, .int 0])), (q1, .inl (c1, (8, .inl (fun _ => 0)))), (q2, .inl (c2, (8, .inl (fun _ => 0)))), (q3, .inl (c3, (8, .inl (fun _ => 0)))), (q4, .inl (c4, (8, .inl (fun _ => 0)))), (q5, .inl (c5, (8, .inl (fun _ => 0)))), (q6, .inl (c6, (8, .inl (fun _ => 0))))] := hD
  refine W.widen (k := 6) (n := 48) (by decide) (by decide) ?_
  exact W.vret hx hb hr (fun t ht hW => ⟨⟨(fun i => ([h0, q1, q2, q3, q4, q5, q6] : List Nat).getD i 0, fun i => ([c1, c1, c2, c3, c4, c5, c6] : List ClassId).getD i c1), rfl, rfl, by rw [ht]; exact hP, va_K.moved hW.alike hK, hD⟩, hS.F ht⟩) hS.2.2 dI_Sh_52
def mI_Ne : mM := (yX3_init, cX3_init, 1, none, 3)
def blkNe (ad : Nat → Nat) (cA : Nat → ClassId) : va_W := [(ad 0, .inr (3, [.ref (ad 1), .ref (ad 2), .ref (ad 3), .ref (ad 4), .int 0])), (ad 1, .inl (cA 1, (256, .inl (fun _ => 0)))), (ad 2, .inl (cA 2, (256, .inl (fun _ => 0)))), (ad 3, .inl (cA 3, (64, .inl (fun _ => 0)))), (ad 4, .inl (cA 4, (8, .inl (fun _ => 0))))]
def tysNe (cA : Nat → ClassId) : List (ClassId × FieldType) := [(cA 1, .int), (cA 2, .int), (cA 3, .int), (cA 4, .int)]
theorem dI_Ne_0 : decode cX3_init 0 = .ok (.aload_n 0, 1) := by decide +kernel
theorem dI_Ne_1 : decode cX3_init 1 = .ok (.invokespecial 3, 3) := by decide +kernel
theorem dI_Ne_4 : decode cX3_init 4 = .ok (.aload_n 0, 1) := by decide +kernel
theorem dI_Ne_5 : decode cX3_init 5 = .ok (.sipush 256, 3) := by decide +kernel
theorem dI_Ne_8 : decode cX3_init 8 = .ok (.newarray .int, 2) := by decide +kernel
theorem dI_Ne_10 : decode cX3_init 10 = .ok (.putfield 11, 3) := by decide +kernel
theorem dI_Ne_13 : decode cX3_init 13 = .ok (.aload_n 0, 1) := by decide +kernel
theorem dI_Ne_14 : decode cX3_init 14 = .ok (.sipush 256, 3) := by decide +kernel
theorem dI_Ne_17 : decode cX3_init 17 = .ok (.newarray .int, 2) := by decide +kernel
theorem dI_Ne_19 : decode cX3_init 19 = .ok (.putfield 15, 3) := by decide +kernel
theorem dI_Ne_22 : decode cX3_init 22 = .ok (.aload_n 0, 1) := by decide +kernel
theorem dI_Ne_23 : decode cX3_init 23 = .ok (.bipush 64, 2) := by decide +kernel
theorem dI_Ne_25 : decode cX3_init 25 = .ok (.newarray .int, 2) := by decide +kernel
theorem dI_Ne_27 : decode cX3_init 27 = .ok (.putfield 18, 3) := by decide +kernel
theorem dI_Ne_30 : decode cX3_init 30 = .ok (.aload_n 0, 1) := by decide +kernel
theorem dI_Ne_31 : decode cX3_init 31 = .ok (.bipush 8, 2) := by decide +kernel
theorem dI_Ne_33 : decode cX3_init 33 = .ok (.newarray .int, 2) := by decide +kernel
theorem dI_Ne_35 : decode cX3_init 35 = .ok (.putfield 21, 3) := by decide +kernel
theorem dI_Ne_38 : decode cX3_init 38 = .ok (.return_, 1) := by decide +kernel
set_option maxHeartbeats 4000000 in
set_option maxRecDepth 100000 in
theorem cI_Ne (l : Launch) (D : va_G) (h0 sz : Nat) : Met l (mY mI_Ne) (mW mI_Ne) { frames := 1, cells := 4, slots := 584, locals := 64 } (va_Pc [.ref h0] (fun U => U.heap.size = sz ∧ va_P D vwCl [(h0, .inr (3, [.null, .null, .null, .null, .int 0]))] U.heap ∧ va_K D vwCl [] U ∧ va_D (fun _ => True) [(h0, .inr (3, [.null, .null, .null, .null, .int 0]))])) (va_Qv (fun u : (Nat → Nat) × (Nat → ClassId) => u.1 0 = h0) (fun u t => va_P D vwCl (blkNe u.1 u.2) t.heap ∧ va_K D vwCl (tysNe u.2) t ∧ va_D (va_A [(h0, .inr (3, [.null, .null, .null, .null, .int 0]))] sz) (blkNe u.1 u.2)) (va_A [(h0, .inr (3, [.null, .null, .null, .null, .int 0]))] sz)) 4 584 (va_A [(h0, .inr (3, [.null, .null, .null, .null, .int 0]))] sz) := by
  refine Met.ofW (cc := cX3_init) (maxL := 1) (ret := none) (by decide) rfl ?_
  intro p e s m args below meth c s₁ B hml hv
  obtain ⟨rfl, hsz, hP, hK, hD0⟩ := hv
  have hx := B.exec
  have hb := B.bytes
  have hr := B.returns
  have hts := atoms_spec (ws := mW mI_Ne) B.pre
  have hts2 : ∀ w ∈ mTB, w.before #[Value.ref h0] s = true := fun w hw => hts w (List.mem_cons_of_mem _ hw)
  have hown : s.vm.findClass RX3 = some m.cls := findClass_of_methodNamed B.named
  have hlocks := B.notSynchronized
  have hin : meth.name = "<init>" := (name_of_methodNamed B.named B.method).1
  subst hsz
  have hD := hD0.self (sz := s.heap.size)
  generalize hAe : va_A [(h0, .inr (3, [.null, .null, .null, .null, .int 0]))] s.heap.size = A at hD ⊢
  have hA : ∀ q : Nat, s.heap.size ≤ q → A q := fun q h => by rw [← hAe]; exact Or.inr h
  have hS : va_S A s.heap s.heap [] := va_S.rf
  have hl := lv_entry ([.ref h0]) (n := 1) (Nat.le_of_ble_eq_true rfl)
  rw [lg_entry_eq]
  generalize (lg_sl ([.ref h0]) ++ List.replicate (1 - (lg_sl ([.ref h0])).length) Slot.unset).toArray = ls at hl ⊢
  have hl : lv_has ls 1 [(0, .ref h0)] := hl
  obtain ⟨lay1, lay2, lay3, lay4⟩ := id (mLay (show vwCl[3]? = some (RX3, TX3, 5) from rfl))
  refine lv_aload_n hx hb dI_Ne_0 rfl (lv_at hl 0 rfl) ?_
  refine W.objInit hx hb hown (hts (.methodLink RX3 3 objectInit) (List.mem_cons_of_mem _ (mTBm 2 161 rfl rfl))) (hts (.instanceMethod objectInit) (List.mem_cons_of_mem _ (mTBm 1 26 rfl rfl))) (hts (.code objectInit ⟨#[0xb1]⟩ 1 none) (List.mem_cons_of_mem _ (mTBm 1 27 rfl rfl))) rfl (by rw [hml]; exact hl.1) rfl dI_Ne_1 (Nat.le_of_ble_eq_true rfl) (Nat.le_of_ble_eq_true rfl) ?_
  refine W.eq (g2 := F0 m 4 ls []) rfl ?_
  refine lv_aload_n hx hb dI_Ne_4 rfl (lv_at hl 0 rfl) ?_
  refine lv_sipush hx hb dI_Ne_5 (v := nI 256) rfl ?_
  refine va_newa (atype := .int) (a0 := (256, .inl (fun _ => 0))) (N' := 256) (ty := .int) hx hb (hts (.arrayClass .int) (List.mem_cons_of_mem _ (mTBm 1 48 rfl rfl))) rfl hK hP hD hS hA (ha_int 256) (nI_pos (by decide)) (nI_clamp (by decide)) (Nat.le_of_ble_eq_true rfl) (Nat.le_of_ble_eq_true rfl) (Nat.le_of_ble_eq_true rfl) dI_Ne_8 (fun q1 c1 H hK hP hD hS => ?_)
  have hP : va_P D vwCl [(h0, .inr (3, [.null, .null, .null, .null, .int 0])), (q1, .inl (c1, (256, .inl (fun _ => 0))))] H := hP
  have hD : va_D A [(h0, .inr (3, [.null, .null, .null, .null, .int 0])), (q1, .inl (c1, (256, .inl (fun _ => 0))))] := hD
  have hK : va_K D vwCl [(c1, .int)] s := hK
  refine va_putF (D := D) (ci := 3) (v := .ref q1) (ty := (.array .int)) (C := RX3) (T := TX3) (N := 5) hx hb hts2 lay1 _ lay3 lay4 hown hK hP hD hS 0 rfl rfl 0 (by decide) (hts2 (.fieldLink RX3 11 RX3 "sums" "[I") (mTBm 2 162 rfl rfl)) (fun _ h9 => h9) rfl hin rfl (by decide +kernel) rfl rfl (Nat.le_of_ble_eq_true rfl) dI_Ne_10 (fun H locs hP hD hS => ?_)
  have hP : va_P D vwCl [(h0, .inr (3, [.ref q1, .null, .null, .null, .int 0])), (q1, .inl (c1, (256, .inl (fun _ => 0))))] H := hP
  have hD : va_D A [(h0, .inr (3, [.ref q1, .null, .null, .null, .int 0])), (q1, .inl (c1, (256, .inl (fun _ => 0))))] := hD
  refine lv_aload_n hx hb dI_Ne_13 rfl (lv_at hl 0 rfl) ?_
  refine lv_sipush hx hb dI_Ne_14 (v := nI 256) rfl ?_
  refine va_newa (atype := .int) (a0 := (256, .inl (fun _ => 0))) (N' := 256) (ty := .int) hx hb (hts (.arrayClass .int) (List.mem_cons_of_mem _ (mTBm 1 48 rfl rfl))) rfl hK hP hD hS hA (ha_int 256) (nI_pos (by decide)) (nI_clamp (by decide)) (Nat.le_of_ble_eq_true rfl) (Nat.le_of_ble_eq_true rfl) (Nat.le_of_ble_eq_true rfl) dI_Ne_17 (fun q2 c2 H hK hP hD hS => ?_)
  have hP : va_P D vwCl [(h0, .inr (3, [.ref q1, .null, .null, .null, .int 0])), (q1, .inl (c1, (256, .inl (fun _ => 0)))), (q2, .inl (c2, (256, .inl (fun _ => 0))))] H := hP
  have hD : va_D A [(h0, .inr (3, [.ref q1, .null, .null, .null, .int 0])), (q1, .inl (c1, (256, .inl (fun _ => 0)))), (q2, .inl (c2, (256, .inl (fun _ => 0))))] := hD
  have hK : va_K D vwCl [(c1, .int), (c2, .int)] s := hK
  refine va_putF (D := D) (ci := 3) (v := .ref q2) (ty := (.array .int)) (C := RX3) (T := TX3) (N := 5) hx hb hts2 lay1 _ lay3 lay4 hown hK hP hD hS 0 rfl rfl 1 (by decide) (hts2 (.fieldLink RX3 15 RX3 "groups" "[I") (mTBm 2 163 rfl rfl)) (fun _ h9 => h9) rfl hin rfl (by decide +kernel) rfl rfl (Nat.le_of_ble_eq_true rfl) dI_Ne_19 (fun H locs hP hD hS => ?_)
  have hP : va_P D vwCl [(h0, .inr (3, [.ref q1, .ref q2, .null, .null, .int 0])), (q1, .inl (c1, (256, .inl (fun _ => 0)))), (q2, .inl (c2, (256, .inl (fun _ => 0))))] H := hP
  have hD : va_D A [(h0, .inr (3, [.ref q1, .ref q2, .null, .null, .int 0])), (q1, .inl (c1, (256, .inl (fun _ => 0)))), (q2, .inl (c2, (256, .inl (fun _ => 0))))] := hD
  refine lv_aload_n hx hb dI_Ne_22 rfl (lv_at hl 0 rfl) ?_
  refine lv_bipush hx hb dI_Ne_23 (v := nI 64) rfl ?_
  refine va_newa (atype := .int) (a0 := (64, .inl (fun _ => 0))) (N' := 64) (ty := .int) hx hb (hts (.arrayClass .int) (List.mem_cons_of_mem _ (mTBm 1 48 rfl rfl))) rfl hK hP hD hS hA (ha_int 64) (nI_pos (by decide)) (nI_clamp (by decide)) (Nat.le_of_ble_eq_true rfl) (Nat.le_of_ble_eq_true rfl) (Nat.le_of_ble_eq_true rfl) dI_Ne_25 (fun q3 c3 H hK hP hD hS => ?_)
  have hP : va_P D vwCl [(h0, .inr (3, [.ref q1, .ref q2, .null, .null, .int 0])), (q1, .inl (c1, (256, .inl (fun _ => 0)))), (q2, .inl (c2, (256, .inl (fun _ => 0)))), (q3, .inl (c3, (64, .inl (fun _ => 0))))] H := hP
  have hD : va_D A [(h0, .inr (3, [.ref q1, .ref q2, .null, .null, .int 0])), (q1, .inl (c1, (256, .inl (fun _ => 0)))), (q2, .inl (c2, (256, .inl (fun _ => 0)))), (q3, .inl (c3, (64, .inl (fun _ => 0))))] := hD
  have hK : va_K D vwCl [(c1, .int), (c2, .int), (c3, .int)] s := hK
  refine va_putF (D := D) (ci := 3) (v := .ref q3) (ty := (.array .int)) (C := RX3) (T := TX3) (N := 5) hx hb hts2 lay1 _ lay3 lay4 hown hK hP hD hS 0 rfl rfl 2 (by decide) (hts2 (.fieldLink RX3 18 RX3 "steps" "[I") (mTBm 2 164 rfl rfl)) (fun _ h9 => h9) rfl hin rfl (by decide +kernel) rfl rfl (Nat.le_of_ble_eq_true rfl) dI_Ne_27 (fun H locs hP hD hS => ?_)
  have hP : va_P D vwCl [(h0, .inr (3, [.ref q1, .ref q2, .ref q3, .null, .int 0])), (q1, .inl (c1, (256, .inl (fun _ => 0)))), (q2, .inl (c2, (256, .inl (fun _ => 0)))), (q3, .inl (c3, (64, .inl (fun _ => 0))))] H := hP
  have hD : va_D A [(h0, .inr (3, [.ref q1, .ref q2, .ref q3, .null, .int 0])), (q1, .inl (c1, (256, .inl (fun _ => 0)))), (q2, .inl (c2, (256, .inl (fun _ => 0)))), (q3, .inl (c3, (64, .inl (fun _ => 0))))] := hD
  refine lv_aload_n hx hb dI_Ne_30 rfl (lv_at hl 0 rfl) ?_
  refine lv_bipush hx hb dI_Ne_31 (v := nI 8) rfl ?_
  refine va_newa (atype := .int) (a0 := (8, .inl (fun _ => 0))) (N' := 8) (ty := .int) hx hb (hts (.arrayClass .int) (List.mem_cons_of_mem _ (mTBm 1 48 rfl rfl))) rfl hK hP hD hS hA (ha_int 8) (nI_pos (by decide)) (nI_clamp (by decide)) (Nat.le_of_ble_eq_true rfl) (Nat.le_of_ble_eq_true rfl) (Nat.le_of_ble_eq_true rfl) dI_Ne_33 (fun q4 c4 H hK hP hD hS => ?_)
  have hP : va_P D vwCl [(h0, .inr (3, [.ref q1, .ref q2, .ref q3, .null, .int 0])), (q1, .inl (c1, (256, .inl (fun _ => 0)))), (q2, .inl (c2, (256, .inl (fun _ => 0)))), (q3, .inl (c3, (64, .inl (fun _ => 0)))), (q4, .inl (c4, (8, .inl (fun _ => 0))))] H := hP
  have hD : va_D A [(h0, .inr (3, [.ref q1, .ref q2, .ref q3, .null, .int 0])), (q1, .inl (c1, (256, .inl (fun _ => 0)))), (q2, .inl (c2, (256, .inl (fun _ => 0)))), (q3, .inl (c3, (64, .inl (fun _ => 0)))), (q4, .inl (c4, (8, .inl (fun _ => 0))))] := hD
  have hK : va_K D vwCl [(c1, .int), (c2, .int), (c3, .int), (c4, .int)] s := hK
  refine va_putF (D := D) (ci := 3) (v := .ref q4) (ty := (.array .int)) (C := RX3) (T := TX3) (N := 5) hx hb hts2 lay1 _ lay3 lay4 hown hK hP hD hS 0 rfl rfl 3 (by decide) (hts2 (.fieldLink RX3 21 RX3 "found" "[I") (mTBm 2 165 rfl rfl)) (fun _ h9 => h9) rfl hin rfl (by decide +kernel) rfl rfl (Nat.le_of_ble_eq_true rfl) dI_Ne_35 (fun H locs hP hD hS => ?_)
  have hP : va_P D vwCl [(h0, .inr (3, [.ref q1, .ref q2, .ref q3, .ref q4, .int 0])), (q1, .inl (c1, (256, .inl (fun _ => 0)))), (q2, .inl (c2, (256, .inl (fun _ => 0)))), (q3, .inl (c3, (64, .inl (fun _ => 0)))), (q4, .inl (c4, (8, .inl (fun _ => 0))))] H := hP
  have hD : va_D A [(h0, .inr (3, [.ref q1, .ref q2, .ref q3, .ref q4, .int 0])), (q1, .inl (c1, (256, .inl (fun _ => 0)))), (q2, .inl (c2, (256, .inl (fun _ => 0)))), (q3, .inl (c3, (64, .inl (fun _ => 0)))), (q4, .inl (c4, (8, .inl (fun _ => 0))))] := hD
  refine W.widen (k := 4) (n := 584) (by decide) (by decide) ?_
  exact W.vret hx hb hr (fun t ht hW => ⟨⟨(fun i => ([h0, q1, q2, q3, q4] : List Nat).getD i 0, fun i => ([c1, c1, c2, c3, c4] : List ClassId).getD i c1), rfl, rfl, by rw [ht]; exact hP, va_K.moved hW.alike hK, hD⟩, hS.F ht⟩) hS.2.2 dI_Ne_38
