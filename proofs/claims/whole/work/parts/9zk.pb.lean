/-! the machine's constructor -/
section KLP
variable {D : va_G} {cl : List vw_C} {ws w1 : va_W} {y : Nat × va_E} {A : Nat → Prop} {H : Heap} {s : State} {tys : List (ClassId × FieldType)} {ty : ClassId × FieldType}
theorem kl_Pp (h : ws.Perm w1) (hP : va_P D cl ws H) : va_P D cl w1 H := fun k q hk => by
  obtain ⟨i, hi⟩ := List.mem_iff_getElem?.mp (h.mem_iff.mpr (List.mem_of_getElem? hk))
  exact hP i q hi
theorem kl_Dp (h : ws.Perm w1) (hD : va_D A ws) : va_D A w1 := by
  have hp : ws.Pairwise (fun a b => a.1 ≠ b.1) := by
    refine List.pairwise_iff_getElem.mpr (fun i j hi hj hij he => ?_)
    have := hD.1 i j ws[i] ws[j] (List.getElem?_eq_getElem hi) (List.getElem?_eq_getElem hj) he
    omega
  have hp1 : w1.Pairwise (fun a b => a.1 ≠ b.1) := (List.Perm.pairwise_iff (fun h => Ne.symm h) h).mp hp
  refine ⟨fun i j p q hi hj he => ?_, fun k q hk => ?_⟩
  · obtain ⟨hi1, rfl⟩ := List.getElem?_eq_some_iff.mp hi
    obtain ⟨hj1, rfl⟩ := List.getElem?_eq_some_iff.mp hj
    rcases Nat.lt_trichotomy i j with h1 | h1 | h1
    · exact absurd he (List.pairwise_iff_getElem.mp hp1 i j hi1 hj1 h1)
    · exact h1
    · exact absurd he.symm (List.pairwise_iff_getElem.mp hp1 j i hj1 hi1 h1)
  · obtain ⟨i, hi⟩ := List.mem_iff_getElem?.mp (h.mem_iff.mpr (List.mem_of_getElem? hk))
    exact hD.2 i q hi
theorem kl_K (h : va_K D cl (tys ++ [ty]) s) : va_K D cl [ty] s := ⟨h.1, fun k q hk => by
  have : k = 0 := by
    have := (List.getElem?_eq_some_iff.mp hk).1
    simp at this; omega
  subst this
  cases hk
  exact h.2 tys.length ty (by rw [List.getElem?_append_right (Nat.le_refl _), Nat.sub_self]; rfl)⟩
theorem kl_hd {r : va_W} : (ws ++ (y :: r))[ws.length]? = some y := by
  rw [List.getElem?_append_right (Nat.le_refl _), Nat.sub_self]
  rfl
end KLP
def twF (ad : Nat → Nat) : List Value := [.ref (ad 1), .ref (ad 3), .ref (ad 12), .ref (ad 15), .ref (ad 16), .ref (ad 17), .ref (ad 18), .ref (ad 19), .ref (ad 20), .ref (ad 21), .ref (ad 22), .ref (ad 23), .ref (ad 24), .int 0, .int 0, .int 0, .int 0, .int 0, .int 0]
theorem kl_tw (ws : va_W) (ad : Nat → Nat) (cA : Nat → ClassId) : (ws ++ blkTw ad cA)[ws.length]? = some (ad 0, .inr (8, twF ad)) := kl_hd
def mI_Pb : mM := (yX10_init, cX10_init, 2, none, 10)
def blkPb (ad : Nat → Nat) (cA : Nat → ClassId) : va_W := (ad 0, .inr (10, [.ref (ad 1), .ref (ad 5), .ref (ad 10), .ref (ad 35), .ref (ad 60), .ref (ad 61), .ref (ad 68), .ref (ad 73), .ref (ad 82), .int 0, .int 0, .long 0, .long 1, .int (-1), .int (-1), .int 0])) :: (([] : va_W) ++ blkTr (shN ad 1) (shN cA 1) ++ blkTe (shN ad 5) (shN cA 5) ++ blkTw (shN ad 10) (shN cA 10) ++ blkTw (shN ad 35) (shN cA 35) ++ [(ad 60, .inl (cA 60, 3, .inr (.inr (.inr (.inr (fun j => (([91, 116, 141] : List Nat)[j]?).map ad))))))] ++ blkSh (shN ad 61) (shN cA 61) ++ blkNe (shN ad 68) (shN cA 68) ++ blkLi (shN ad 73) (shN cA 73) ++ blkLi (shN ad 82) (shN cA 82) ++ blkTw (shN ad 91) (shN cA 91) ++ blkTw (shN ad 116) (shN cA 116) ++ blkTw (shN ad 141) (shN cA 141))
def tysPb (cA : Nat → ClassId) : List (ClassId × FieldType) := ([] : List (ClassId × FieldType)) ++ tysTr (shN cA 1) ++ tysTe (shN cA 5) ++ tysTw (shN cA 10) ++ tysTw (shN cA 35) ++ [(cA 60, .object "PaperBread$Town")] ++ tysSh (shN cA 61) ++ tysNe (shN cA 68) ++ tysLi (shN cA 73) ++ tysLi (shN cA 82) ++ tysTw (shN cA 91) ++ tysTw (shN cA 116) ++ tysTw (shN cA 141)
theorem dI_Pb_0 : decode cX10_init 0 = .ok (.aload_n 0, 1) := by decide +kernel
theorem dI_Pb_1 : decode cX10_init 1 = .ok (.invokespecial 1, 3) := by decide +kernel
theorem dI_Pb_4 : decode cX10_init 4 = .ok (.aload_n 0, 1) := by decide +kernel
theorem dI_Pb_5 : decode cX10_init 5 = .ok (.new 7, 3) := by decide +kernel
theorem dI_Pb_8 : decode cX10_init 8 = .ok (.dup, 1) := by decide +kernel
theorem dI_Pb_9 : decode cX10_init 9 = .ok (.invokespecial 9, 3) := by decide +kernel
theorem dI_Pb_12 : decode cX10_init 12 = .ok (.putfield 10, 3) := by decide +kernel
theorem dI_Pb_15 : decode cX10_init 15 = .ok (.aload_n 0, 1) := by decide +kernel
theorem dI_Pb_16 : decode cX10_init 16 = .ok (.new 16, 3) := by decide +kernel
theorem dI_Pb_19 : decode cX10_init 19 = .ok (.dup, 1) := by decide +kernel
theorem dI_Pb_20 : decode cX10_init 20 = .ok (.invokespecial 18, 3) := by decide +kernel
theorem dI_Pb_23 : decode cX10_init 23 = .ok (.putfield 19, 3) := by decide +kernel
theorem dI_Pb_26 : decode cX10_init 26 = .ok (.aload_n 0, 1) := by decide +kernel
theorem dI_Pb_27 : decode cX10_init 27 = .ok (.new 23, 3) := by decide +kernel
theorem dI_Pb_30 : decode cX10_init 30 = .ok (.dup, 1) := by decide +kernel
theorem dI_Pb_31 : decode cX10_init 31 = .ok (.invokespecial 25, 3) := by decide +kernel
theorem dI_Pb_34 : decode cX10_init 34 = .ok (.putfield 26, 3) := by decide +kernel
theorem dI_Pb_37 : decode cX10_init 37 = .ok (.aload_n 0, 1) := by decide +kernel
theorem dI_Pb_38 : decode cX10_init 38 = .ok (.new 23, 3) := by decide +kernel
theorem dI_Pb_41 : decode cX10_init 41 = .ok (.dup, 1) := by decide +kernel
theorem dI_Pb_42 : decode cX10_init 42 = .ok (.invokespecial 25, 3) := by decide +kernel
theorem dI_Pb_45 : decode cX10_init 45 = .ok (.putfield 30, 3) := by decide +kernel
theorem dI_Pb_48 : decode cX10_init 48 = .ok (.aload_n 0, 1) := by decide +kernel
theorem dI_Pb_49 : decode cX10_init 49 = .ok (.iconst 3, 1) := by decide +kernel
theorem dI_Pb_50 : decode cX10_init 50 = .ok (.anewarray 23, 3) := by decide +kernel
theorem dI_Pb_53 : decode cX10_init 53 = .ok (.putfield 33, 3) := by decide +kernel
theorem dI_Pb_56 : decode cX10_init 56 = .ok (.aload_n 0, 1) := by decide +kernel
theorem dI_Pb_57 : decode cX10_init 57 = .ok (.new 37, 3) := by decide +kernel
theorem dI_Pb_60 : decode cX10_init 60 = .ok (.dup, 1) := by decide +kernel
theorem dI_Pb_61 : decode cX10_init 61 = .ok (.invokespecial 39, 3) := by decide +kernel
theorem dI_Pb_64 : decode cX10_init 64 = .ok (.putfield 40, 3) := by decide +kernel
theorem dI_Pb_67 : decode cX10_init 67 = .ok (.aload_n 0, 1) := by decide +kernel
theorem dI_Pb_68 : decode cX10_init 68 = .ok (.new 44, 3) := by decide +kernel
theorem dI_Pb_71 : decode cX10_init 71 = .ok (.dup, 1) := by decide +kernel
theorem dI_Pb_72 : decode cX10_init 72 = .ok (.invokespecial 46, 3) := by decide +kernel
theorem dI_Pb_75 : decode cX10_init 75 = .ok (.putfield 47, 3) := by decide +kernel
theorem dI_Pb_78 : decode cX10_init 78 = .ok (.aload_n 0, 1) := by decide +kernel
theorem dI_Pb_79 : decode cX10_init 79 = .ok (.new 51, 3) := by decide +kernel
theorem dI_Pb_82 : decode cX10_init 82 = .ok (.dup, 1) := by decide +kernel
theorem dI_Pb_83 : decode cX10_init 83 = .ok (.invokespecial 53, 3) := by decide +kernel
theorem dI_Pb_86 : decode cX10_init 86 = .ok (.putfield 54, 3) := by decide +kernel
theorem dI_Pb_89 : decode cX10_init 89 = .ok (.aload_n 0, 1) := by decide +kernel
theorem dI_Pb_90 : decode cX10_init 90 = .ok (.new 51, 3) := by decide +kernel
theorem dI_Pb_93 : decode cX10_init 93 = .ok (.dup, 1) := by decide +kernel
theorem dI_Pb_94 : decode cX10_init 94 = .ok (.invokespecial 53, 3) := by decide +kernel
theorem dI_Pb_97 : decode cX10_init 97 = .ok (.putfield 58, 3) := by decide +kernel
theorem dI_Pb_100 : decode cX10_init 100 = .ok (.aload_n 0, 1) := by decide +kernel
theorem dI_Pb_101 : decode cX10_init 101 = .ok (.lconst 1, 1) := by decide +kernel
theorem dI_Pb_102 : decode cX10_init 102 = .ok (.putfield 61, 3) := by decide +kernel
theorem dI_Pb_105 : decode cX10_init 105 = .ok (.aload_n 0, 1) := by decide +kernel
theorem dI_Pb_106 : decode cX10_init 106 = .ok (.iconst (-1), 1) := by decide +kernel
theorem dI_Pb_107 : decode cX10_init 107 = .ok (.putfield 65, 3) := by decide +kernel
theorem dI_Pb_110 : decode cX10_init 110 = .ok (.aload_n 0, 1) := by decide +kernel
theorem dI_Pb_111 : decode cX10_init 111 = .ok (.iconst (-1), 1) := by decide +kernel
theorem dI_Pb_112 : decode cX10_init 112 = .ok (.putfield 69, 3) := by decide +kernel
theorem dI_Pb_115 : decode cX10_init 115 = .ok (.iconst 0, 1) := by decide +kernel
theorem dI_Pb_116 : decode cX10_init 116 = .ok (.istore_n 1, 1) := by decide +kernel
theorem dI_Pb_117 : decode cX10_init 117 = .ok (.iload_n 1, 1) := by decide +kernel
theorem dI_Pb_118 : decode cX10_init 118 = .ok (.aload_n 0, 1) := by decide +kernel
theorem dI_Pb_119 : decode cX10_init 119 = .ok (.getfield 33, 3) := by decide +kernel
theorem dI_Pb_122 : decode cX10_init 122 = .ok (.arraylength, 1) := by decide +kernel
theorem dI_Pb_123 : decode cX10_init 123 = .ok (.if_icmp .ge 22, 3) := by decide +kernel
theorem dI_Pb_126 : decode cX10_init 126 = .ok (.aload_n 0, 1) := by decide +kernel
theorem dI_Pb_127 : decode cX10_init 127 = .ok (.getfield 33, 3) := by decide +kernel
theorem dI_Pb_130 : decode cX10_init 130 = .ok (.iload_n 1, 1) := by decide +kernel
theorem dI_Pb_138 : decode cX10_init 138 = .ok (.aastore, 1) := by decide +kernel
theorem dI_Pb_139 : decode cX10_init 139 = .ok (.iinc 1 1, 3) := by decide +kernel
theorem dI_Pb_142 : decode cX10_init 142 = .ok (.goto (-25), 3) := by decide +kernel
theorem dI_Pb_131 : decode cX10_init 131 = .ok (.new 23, 3) := by decide +kernel
theorem dI_Pb_134 : decode cX10_init 134 = .ok (.dup, 1) := by decide +kernel
theorem dI_Pb_135 : decode cX10_init 135 = .ok (.invokespecial 25, 3) := by decide +kernel
theorem dI_Pb_145 : decode cX10_init 145 = .ok (.return_, 1) := by decide +kernel
set_option maxHeartbeats 4000000 in
set_option maxRecDepth 100000 in
theorem cI_Pb (l : Launch) (D : va_G) (h0 sz : Nat) (aS aV : Nat) (x : Value) (hx1 : x.category = 1) : Met l (mY mI_Pb) (mW mI_Pb) { frames := 7, cells := 165, slots := 6302, locals := 448 } (va_Pc [.ref h0] (fun U => U.heap.size = sz ∧ va_P D vwCl [(h0, .inr (10, [.null, .null, .null, .null, .null, .null, .null, .null, .null, .int 0, .int 0, .long 0, .long 0, .int 0, .int 0, .int 0]))] U.heap ∧ va_K D vwCl [] U ∧ va_D (fun _ => True) [(h0, .inr (10, [.null, .null, .null, .null, .null, .null, .null, .null, .null, .int 0, .int 0, .long 0, .long 0, .int 0, .int 0, .int 0]))] ∧ va_AO "PaperBread$Town" U ∧ kN U ∧ kJ aS aV x (va_A [(h0, .inr (10, [.null, .null, .null, .null, .null, .null, .null, .null, .null, .int 0, .int 0, .long 0, .long 0, .int 0, .int 0, .int 0]))] sz) U U.heap ∧ vk_R RX7 19 kTx aS U)) (va_Qv (fun u : (Nat → Nat) × (Nat → ClassId) => u.1 0 = h0) (fun u t => va_P D vwCl (blkPb u.1 u.2) t.heap ∧ va_K D vwCl (tysPb u.2) t ∧ va_D (va_A [(h0, .inr (10, [.null, .null, .null, .null, .null, .null, .null, .null, .null, .int 0, .int 0, .long 0, .long 0, .int 0, .int 0, .int 0]))] sz) (blkPb u.1 u.2)) (va_A [(h0, .inr (10, [.null, .null, .null, .null, .null, .null, .null, .null, .null, .int 0, .int 0, .long 0, .long 0, .int 0, .int 0, .int 0]))] sz)) 165 6302 (va_A [(h0, .inr (10, [.null, .null, .null, .null, .null, .null, .null, .null, .null, .int 0, .int 0, .long 0, .long 0, .int 0, .int 0, .int 0]))] sz) := by
  refine Met.ofW (cc := cX10_init) (maxL := 2) (ret := none) (by decide) rfl ?_
  intro p e s m args below meth c s₁ B hml hv
  obtain ⟨rfl, hsz, hP, hK, hD0, hAO, hN, hJ, hR⟩ := hv
  have hx := B.exec
  have hb := B.bytes
  have hr := B.returns
  have hts := atoms_spec (ws := mW mI_Pb) B.pre
  have hts2 : ∀ w ∈ mTB, w.before #[Value.ref h0] s = true := fun w hw => hts w (List.mem_cons_of_mem _ hw)
  have hown : s.vm.findClass RX10 = some m.cls := findClass_of_methodNamed B.named
  have hlocks := B.notSynchronized
  have hin : meth.name = "<init>" := (name_of_methodNamed B.named B.method).1
  subst hsz
  have hD := hD0.self (sz := s.heap.size)
  generalize hAe : va_A [(h0, .inr (10, [.null, .null, .null, .null, .null, .null, .null, .null, .null, .int 0, .int 0, .long 0, .long 0, .int 0, .int 0, .int 0]))] s.heap.size = A at hD hJ ⊢
  have hA : ∀ q : Nat, s.heap.size ≤ q → A q := fun q h => by rw [← hAe]; exact Or.inr h
  have hS : va_S A s.heap s.heap [] := va_S.rf
  have hl := lv_entry ([.ref h0]) (n := 2) (Nat.le_of_ble_eq_true rfl)
  rw [lg_entry_eq]
  generalize (lg_sl ([.ref h0]) ++ List.replicate (2 - (lg_sl ([.ref h0])).length) Slot.unset).toArray = ls at hl ⊢
  have hl : lv_has ls 2 [(0, .ref h0)] := hl
  obtain ⟨lay1, lay2, lay3, lay4⟩ := id (mLay (show vwCl[10]? = some (RX10, TX10, 16) from rfl))
  refine lv_aload_n hx hb dI_Pb_0 rfl (lv_at hl 0 rfl) ?_
  refine W.objInit hx hb hown (hts (.methodLink RX10 1 objectInit) (List.mem_cons_of_mem _ (mTBm 1 25 rfl rfl))) (hts (.instanceMethod objectInit) (List.mem_cons_of_mem _ (mTBm 1 26 rfl rfl))) (hts (.code objectInit ⟨#[0xb1]⟩ 1 none) (List.mem_cons_of_mem _ (mTBm 1 27 rfl rfl))) rfl (by rw [hml]; exact hl.1) rfl dI_Pb_1 (Nat.le_of_ble_eq_true rfl) (Nat.le_of_ble_eq_true rfl) ?_
  refine W.eq (g2 := F0 m 4 ls []) rfl ?_
  refine lv_aload_n hx hb dI_Pb_4 rfl (lv_at hl 0 rfl) ?_
  refine va_new (D := D) (ci := 9) (fs := [.null, .null, .null]) (C := RX9) (T := TX9) (N := 3) hx hb hts2 (mLay (show vwCl[9]? = some (RX9, TX9, 3) from rfl)).1 (mTyF 9) (mLay (show vwCl[9]? = some (RX9, TX9, 3) from rfl)).2.2.1 hown (hts2 (.classLink RX10 7 RX9) (mTBm 1 28 rfl rfl)) (hts2 (.instantiable RX9 3) (mTBm 1 29 rfl rfl)) (hts2 (.initialized RX9) (mTBm 1 2 rfl rfl)) hK hP hD hS hA rfl dv_Tr (Nat.le_of_ble_eq_true rfl) (Nat.le_of_ble_eq_true rfl) dI_Pb_5 (fun q1 H hP' hD' hS' => ?_)
  clear hP hD hS
  have hS := hS'
  clear hS'
  have hP := hP'
  have hD := hD'
  clear hP' hD'
  refine lv_dup hx hb dI_Pb_8 rfl ?_
  have hPc := kl_P hP
  have hDc := kl_D hD
  have hKc := hK.sub (tys' := []) [] rfl
  have hFc := kl_F hD hS hA
  refine va_callv (va_runI (b := q1) (As := []) (rest := .ref q1 :: [.ref h0]) ⟨hx, hb, hml, hown, hts2⟩ (cI_Tr l D q1 H.size) ⟨callB_of 0 hts2 (mGoodI (M' := mI_Tr) (fun _ h => h) (mTBm 1 32 rfl rfl)) rfl rfl rfl (hts2 (.initialized RX9) (mTBm 1 2 rfl rfl)) (hts2 (.methodLink RX10 9 (mY mI_Tr)) (mTBm 1 30 rfl rfl)) ⟨by decide +kernel, by decide +kernel, by decide +kernel⟩ ⟨Nat.le_of_ble_eq_true rfl, Nat.le_of_ble_eq_true rfl⟩, rfl, (hts2 (.instanceMethod (mY mI_Tr)) (mTBm 1 31 rfl rfl))⟩ ⟨fun a U g mk q => by obtain ⟨q0, q1, qP, qK, qD⟩ := q; exact ⟨q0, q1, qP, va_K.moved (u := U) (U := U.calling g mk a) (Vm.Alike.refl U.vm) qK, qD⟩, fun U hU hW => ⟨rfl, by rw [hU], by rw [hU]; exact hPc, va_K.moved hW.alike hKc, hDc.weaken (fun _ _ _ _ => trivial)⟩⟩ rfl rfl hl.1 rfl (lv_room (Nat.le_of_ble_eq_true rfl)) dI_Pb_9 ⟨Nat.le_of_ble_eq_true rfl, Nat.le_of_ble_eq_true rfl⟩) hS (fun q _ h => hFc q h) hFc (fun u1 t H1 locs ht hvm hw hB hz1 hk1 hS' => ?_)
  obtain ⟨hP1, hK1, hD1⟩ := hB
  rw [ht] at hP1
  have hK1 := va_K.moved hvm.symm hK1
  clear hPc hDc hKc
  subst hw
  obtain ⟨hP', hD'⟩ := kl_J hP hD hk1 hFc hP1 hD1
  clear hFc hz1 hk1 hP1 hD1
  clear hP hD hS
  have hS := hS'
  clear hS'
  have hK' := hK.app hK1
  clear hK hK1
  clear ht hvm
  generalize H1 = H at hP' hS ⊢
  have hK : va_K D vwCl (([] : List (ClassId × FieldType)) ++ tysTr u1.2) s := hK'
  clear hK'
  have hP : va_P D vwCl ((h0, .inr (10, [.null, .null, .null, .null, .null, .null, .null, .null, .null, .int 0, .int 0, .long 0, .long 0, .int 0, .int 0, .int 0])) :: (([] : va_W) ++ blkTr u1.1 u1.2)) H := hP'
  have hD : va_D A ((h0, .inr (10, [.null, .null, .null, .null, .null, .null, .null, .null, .null, .int 0, .int 0, .long 0, .long 0, .int 0, .int 0, .int 0])) :: (([] : va_W) ++ blkTr u1.1 u1.2)) := hD'
  clear hP' hD'
  refine va_putF (D := D) (ci := 10) (v := .ref (u1.1 0)) (ty := (.object "PaperBread$Trays")) (C := RX10) (T := TX10) (N := 16) hx hb hts2 lay1 _ lay3 lay4 hown hK hP hD hS 0 rfl rfl 0 (by decide) (hts2 (.fieldLink RX10 10 RX10 "trays" "LPaperBread$Trays;") (mTBm 2 222 rfl rfl)) (fun _ h9 => h9) rfl hin rfl (by decide +kernel) rfl rfl (Nat.le_of_ble_eq_true rfl) dI_Pb_12 (fun H locs hP' hD' hS' => ?_)
  clear hP hD hS
  have hS := hS'
  clear hS'
  have hP : va_P D vwCl ((h0, .inr (10, [.ref (u1.1 0), .null, .null, .null, .null, .null, .null, .null, .null, .int 0, .int 0, .long 0, .long 0, .int 0, .int 0, .int 0])) :: (([] : va_W) ++ blkTr u1.1 u1.2)) H := hP'
  have hD : va_D A ((h0, .inr (10, [.ref (u1.1 0), .null, .null, .null, .null, .null, .null, .null, .null, .int 0, .int 0, .long 0, .long 0, .int 0, .int 0, .int 0])) :: (([] : va_W) ++ blkTr u1.1 u1.2)) := hD'
  clear hP' hD'
  refine lv_aload_n hx hb dI_Pb_15 rfl (lv_at hl 0 rfl) ?_
  refine va_new (D := D) (ci := 6) (fs := [.null, .null]) (C := RX6) (T := TX6) (N := 2) hx hb hts2 (mLay (show vwCl[6]? = some (RX6, TX6, 2) from rfl)).1 (mTyF 6) (mLay (show vwCl[6]? = some (RX6, TX6, 2) from rfl)).2.2.1 hown (hts2 (.classLink RX10 16 RX6) (mTBm 1 49 rfl rfl)) (hts2 (.instantiable RX6 2) (mTBm 1 50 rfl rfl)) (hts2 (.initialized RX6) (mTBm 1 4 rfl rfl)) hK hP hD hS hA rfl dv_Te (Nat.le_of_ble_eq_true rfl) (Nat.le_of_ble_eq_true rfl) dI_Pb_16 (fun q2 H hP' hD' hS' => ?_)
  clear hP hD hS
  have hS := hS'
  clear hS'
  have hP := hP'
  have hD := hD'
  clear hP' hD'
  refine lv_dup hx hb dI_Pb_19 rfl ?_
  have hPc := kl_P hP
  have hDc := kl_D hD
  have hKc := hK.sub (tys' := []) [] rfl
  have hFc := kl_F hD hS hA
  refine va_callv (va_runIN (b := q2) (As := []) (rest := .ref q2 :: [.ref h0]) ⟨hx, hb, hml, hown, hts2⟩ (cI_Te l D q2 H.size aS aV x hx1) ⟨va_cnB (host := "PaperBread") 0 hts2 (mGoodI (M' := mI_Te) (fun _ h => h) (mTBm 1 53 rfl rfl)) rfl rfl rfl (hN (.methodLinkNest RX10 18 (mY mI_Te) "PaperBread") (List.mem_of_getElem? (i := 0) rfl)) (hts2 (.initialized RX6) (mTBm 1 4 rfl rfl)) ⟨by decide +kernel, by decide +kernel, by decide +kernel⟩ ⟨Nat.le_of_ble_eq_true rfl, Nat.le_of_ble_eq_true rfl⟩, rfl, (hts2 (.instanceMethod (mY mI_Te)) (mTBm 1 52 rfl rfl))⟩ ⟨fun a U g mk q => by obtain ⟨q0, q1, qP, qK, qD, qJ, qR⟩ := q; exact ⟨q0, q1, qP, va_K.moved (u := U) (U := U.calling g mk a) (Vm.Alike.refl U.vm) qK, qD, kJ.moved (u := U) (U := U.calling g mk a) (Vm.Alike.refl U.vm) qJ, vk_R.same (u := U) (U := U.calling g mk a) rfl qR⟩, fun U hU hW => ⟨rfl, by rw [hU], by rw [hU]; exact hPc, va_K.moved hW.alike hKc, hDc.weaken (fun _ _ _ _ => trivial), by rw [hU]; exact ((hJ.kept hS.2.1).narrow hFc).moved hW.alike, hR.warm hW⟩⟩ rfl rfl hl.1 rfl (lv_room (Nat.le_of_ble_eq_true rfl)) dI_Pb_20 ⟨Nat.le_of_ble_eq_true rfl, Nat.le_of_ble_eq_true rfl⟩) hS (fun q _ h => hFc q h) hFc (fun u2 t H1 locs ht hvm hw hB hz1 hk1 hS' => ?_)
  obtain ⟨hP1, hK1, hD1⟩ := hB
  rw [ht] at hP1
  have hK1 := va_K.moved hvm.symm hK1
  clear hPc hDc hKc
  subst hw
  obtain ⟨hP', hD'⟩ := kl_J hP hD hk1 hFc hP1 hD1
  clear hFc hz1 hk1 hP1 hD1
  clear hP hD hS
  have hS := hS'
  clear hS'
  have hK' := hK.app hK1
  clear hK hK1
  clear ht hvm
  generalize H1 = H at hP' hS ⊢
  have hK : va_K D vwCl (([] : List (ClassId × FieldType)) ++ tysTr u1.2 ++ tysTe u2.2) s := hK'
  clear hK'
  have hP : va_P D vwCl ((h0, .inr (10, [.ref (u1.1 0), .null, .null, .null, .null, .null, .null, .null, .null, .int 0, .int 0, .long 0, .long 0, .int 0, .int 0, .int 0])) :: (([] : va_W) ++ blkTr u1.1 u1.2 ++ blkTe u2.1 u2.2)) H := hP'
  have hD : va_D A ((h0, .inr (10, [.ref (u1.1 0), .null, .null, .null, .null, .null, .null, .null, .null, .int 0, .int 0, .long 0, .long 0, .int 0, .int 0, .int 0])) :: (([] : va_W) ++ blkTr u1.1 u1.2 ++ blkTe u2.1 u2.2)) := hD'
  clear hP' hD'
  refine va_putF (D := D) (ci := 10) (v := .ref (u2.1 0)) (ty := (.object "PaperBread$Texts")) (C := RX10) (T := TX10) (N := 16) hx hb hts2 lay1 _ lay3 lay4 hown hK hP hD hS 0 rfl rfl 1 (by decide) (hts2 (.fieldLink RX10 19 RX10 "texts" "LPaperBread$Texts;") (mTBm 2 223 rfl rfl)) (fun _ h9 => h9) rfl hin rfl (by decide +kernel) rfl rfl (Nat.le_of_ble_eq_true rfl) dI_Pb_23 (fun H locs hP' hD' hS' => ?_)
  clear hP hD hS
  have hS := hS'
  clear hS'
  have hP : va_P D vwCl ((h0, .inr (10, [.ref (u1.1 0), .ref (u2.1 0), .null, .null, .null, .null, .null, .null, .null, .int 0, .int 0, .long 0, .long 0, .int 0, .int 0, .int 0])) :: (([] : va_W) ++ blkTr u1.1 u1.2 ++ blkTe u2.1 u2.2)) H := hP'
  have hD : va_D A ((h0, .inr (10, [.ref (u1.1 0), .ref (u2.1 0), .null, .null, .null, .null, .null, .null, .null, .int 0, .int 0, .long 0, .long 0, .int 0, .int 0, .int 0])) :: (([] : va_W) ++ blkTr u1.1 u1.2 ++ blkTe u2.1 u2.2)) := hD'
  clear hP' hD'
  refine lv_aload_n hx hb dI_Pb_26 rfl (lv_at hl 0 rfl) ?_
  refine va_new (D := D) (ci := 8) (fs := [.null, .null, .null, .null, .null, .null, .null, .null, .null, .null, .null, .null, .null, .int 0, .int 0, .int 0, .int 0, .int 0, .int 0]) (C := RX8) (T := TX8) (N := 19) hx hb hts2 (mLay (show vwCl[8]? = some (RX8, TX8, 19) from rfl)).1 (mTyF 8) (mLay (show vwCl[8]? = some (RX8, TX8, 19) from rfl)).2.2.1 hown (hts2 (.classLink RX10 23 RX8) (mTBm 1 158 rfl rfl)) (hts2 (.instantiable RX8 19) (mTBm 1 159 rfl rfl)) (hts2 (.initialized RX8) (mTBm 1 10 rfl rfl)) hK hP hD hS hA rfl dv_Tw (Nat.le_of_ble_eq_true rfl) (Nat.le_of_ble_eq_true rfl) dI_Pb_27 (fun q3 H hP' hD' hS' => ?_)
  clear hP hD hS
  have hS := hS'
  clear hS'
  have hP := hP'
  have hD := hD'
  clear hP' hD'
  refine lv_dup hx hb dI_Pb_30 rfl ?_
  have hPc := kl_P hP
  have hDc := kl_D hD
  have hKc := hK.sub (tys' := []) [] rfl
  have hFc := kl_F hD hS hA
  refine va_callv (va_runIN (b := q3) (As := []) (rest := .ref q3 :: [.ref h0]) ⟨hx, hb, hml, hown, hts2⟩ (cI_Tw l D q3 H.size) ⟨va_cnB (host := "PaperBread") 0 hts2 (mGoodI (M' := mI_Tw) (fun _ h => h) (mTBm 1 162 rfl rfl)) rfl rfl rfl (hN (.methodLinkNest RX10 25 (mY mI_Tw) "PaperBread") (List.mem_of_getElem? (i := 1) rfl)) (hts2 (.initialized RX8) (mTBm 1 10 rfl rfl)) ⟨by decide +kernel, by decide +kernel, by decide +kernel⟩ ⟨Nat.le_of_ble_eq_true rfl, Nat.le_of_ble_eq_true rfl⟩, rfl, (hts2 (.instanceMethod (mY mI_Tw)) (mTBm 1 161 rfl rfl))⟩ ⟨fun a U g mk q => by obtain ⟨q0, q1, qP, qK, qD, qN⟩ := q; exact ⟨q0, q1, qP, va_K.moved (u := U) (U := U.calling g mk a) (Vm.Alike.refl U.vm) qK, qD, kN.same (u := U) (U := U.calling g mk a) rfl qN⟩, fun U hU hW => ⟨rfl, by rw [hU], by rw [hU]; exact hPc, va_K.moved hW.alike hKc, hDc.weaken (fun _ _ _ _ => trivial), hN.warm hW⟩⟩ rfl rfl hl.1 rfl (lv_room (Nat.le_of_ble_eq_true rfl)) dI_Pb_31 ⟨Nat.le_of_ble_eq_true rfl, Nat.le_of_ble_eq_true rfl⟩) hS (fun q _ h => hFc q h) hFc (fun u3 t H1 locs ht hvm hw hB hz1 hk1 hS' => ?_)
  obtain ⟨hP1, hK1, hD1⟩ := hB
  rw [ht] at hP1
  have hK1 := va_K.moved hvm.symm hK1
  clear hPc hDc hKc
  subst hw
  obtain ⟨hP', hD'⟩ := kl_J hP hD hk1 hFc hP1 hD1
  clear hFc hz1 hk1 hP1 hD1
  clear hP hD hS
  have hS := hS'
  clear hS'
  have hK' := hK.app hK1
  clear hK hK1
  clear ht hvm
  generalize H1 = H at hP' hS ⊢
  have hK : va_K D vwCl (([] : List (ClassId × FieldType)) ++ tysTr u1.2 ++ tysTe u2.2 ++ tysTw u3.2) s := hK'
  clear hK'
  have hP : va_P D vwCl ((h0, .inr (10, [.ref (u1.1 0), .ref (u2.1 0), .null, .null, .null, .null, .null, .null, .null, .int 0, .int 0, .long 0, .long 0, .int 0, .int 0, .int 0])) :: (([] : va_W) ++ blkTr u1.1 u1.2 ++ blkTe u2.1 u2.2 ++ blkTw u3.1 u3.2)) H := hP'
  have hD : va_D A ((h0, .inr (10, [.ref (u1.1 0), .ref (u2.1 0), .null, .null, .null, .null, .null, .null, .null, .int 0, .int 0, .long 0, .long 0, .int 0, .int 0, .int 0])) :: (([] : va_W) ++ blkTr u1.1 u1.2 ++ blkTe u2.1 u2.2 ++ blkTw u3.1 u3.2)) := hD'
  clear hP' hD'
  refine va_putF (D := D) (ci := 10) (v := .ref (u3.1 0)) (ty := (.object "PaperBread$Town")) (C := RX10) (T := TX10) (N := 16) hx hb hts2 lay1 _ lay3 lay4 hown hK hP hD hS 0 rfl rfl 2 (by decide) (hts2 (.fieldLink RX10 26 RX10 "town" "LPaperBread$Town;") (mTBm 2 224 rfl rfl)) (fun _ h9 => h9) rfl hin rfl (by decide +kernel) rfl rfl (Nat.le_of_ble_eq_true rfl) dI_Pb_34 (fun H locs hP' hD' hS' => ?_)
  clear hP hD hS
  have hS := hS'
  clear hS'
  have hP : va_P D vwCl ((h0, .inr (10, [.ref (u1.1 0), .ref (u2.1 0), .ref (u3.1 0), .null, .null, .null, .null, .null, .null, .int 0, .int 0, .long 0, .long 0, .int 0, .int 0, .int 0])) :: (([] : va_W) ++ blkTr u1.1 u1.2 ++ blkTe u2.1 u2.2 ++ blkTw u3.1 u3.2)) H := hP'
  have hD : va_D A ((h0, .inr (10, [.ref (u1.1 0), .ref (u2.1 0), .ref (u3.1 0), .null, .null, .null, .null, .null, .null, .int 0, .int 0, .long 0, .long 0, .int 0, .int 0, .int 0])) :: (([] : va_W) ++ blkTr u1.1 u1.2 ++ blkTe u2.1 u2.2 ++ blkTw u3.1 u3.2)) := hD'
  clear hP' hD'
  refine lv_aload_n hx hb dI_Pb_37 rfl (lv_at hl 0 rfl) ?_
  refine va_new (D := D) (ci := 8) (fs := [.null, .null, .null, .null, .null, .null, .null, .null, .null, .null, .null, .null, .null, .int 0, .int 0, .int 0, .int 0, .int 0, .int 0]) (C := RX8) (T := TX8) (N := 19) hx hb hts2 (mLay (show vwCl[8]? = some (RX8, TX8, 19) from rfl)).1 (mTyF 8) (mLay (show vwCl[8]? = some (RX8, TX8, 19) from rfl)).2.2.1 hown (hts2 (.classLink RX10 23 RX8) (mTBm 1 158 rfl rfl)) (hts2 (.instantiable RX8 19) (mTBm 1 159 rfl rfl)) (hts2 (.initialized RX8) (mTBm 1 10 rfl rfl)) hK hP hD hS hA rfl dv_Tw (Nat.le_of_ble_eq_true rfl) (Nat.le_of_ble_eq_true rfl) dI_Pb_38 (fun q4 H hP' hD' hS' => ?_)
  clear hP hD hS
  have hS := hS'
  clear hS'
  have hP := hP'
  have hD := hD'
  clear hP' hD'
  refine lv_dup hx hb dI_Pb_41 rfl ?_
  have hPc := kl_P hP
  have hDc := kl_D hD
  have hKc := hK.sub (tys' := []) [] rfl
  have hFc := kl_F hD hS hA
  refine va_callv (va_runIN (b := q4) (As := []) (rest := .ref q4 :: [.ref h0]) ⟨hx, hb, hml, hown, hts2⟩ (cI_Tw l D q4 H.size) ⟨va_cnB (host := "PaperBread") 0 hts2 (mGoodI (M' := mI_Tw) (fun _ h => h) (mTBm 1 162 rfl rfl)) rfl rfl rfl (hN (.methodLinkNest RX10 25 (mY mI_Tw) "PaperBread") (List.mem_of_getElem? (i := 1) rfl)) (hts2 (.initialized RX8) (mTBm 1 10 rfl rfl)) ⟨by decide +kernel, by decide +kernel, by decide +kernel⟩ ⟨Nat.le_of_ble_eq_true rfl, Nat.le_of_ble_eq_true rfl⟩, rfl, (hts2 (.instanceMethod (mY mI_Tw)) (mTBm 1 161 rfl rfl))⟩ ⟨fun a U g mk q => by obtain ⟨q0, q1, qP, qK, qD, qN⟩ := q; exact ⟨q0, q1, qP, va_K.moved (u := U) (U := U.calling g mk a) (Vm.Alike.refl U.vm) qK, qD, kN.same (u := U) (U := U.calling g mk a) rfl qN⟩, fun U hU hW => ⟨rfl, by rw [hU], by rw [hU]; exact hPc, va_K.moved hW.alike hKc, hDc.weaken (fun _ _ _ _ => trivial), hN.warm hW⟩⟩ rfl rfl hl.1 rfl (lv_room (Nat.le_of_ble_eq_true rfl)) dI_Pb_42 ⟨Nat.le_of_ble_eq_true rfl, Nat.le_of_ble_eq_true rfl⟩) hS (fun q _ h => hFc q h) hFc (fun u4 t H1 locs ht hvm hw hB hz1 hk1 hS' => ?_)
  obtain ⟨hP1, hK1, hD1⟩ := hB
  rw [ht] at hP1
  have hK1 := va_K.moved hvm.symm hK1
  clear hPc hDc hKc
  subst hw
  obtain ⟨hP', hD'⟩ := kl_J hP hD hk1 hFc hP1 hD1
  clear hFc hz1 hk1 hP1 hD1
  clear hP hD hS
  have hS := hS'
  clear hS'
  have hK' := hK.app hK1
  clear hK hK1
  clear ht hvm
  generalize H1 = H at hP' hS ⊢
  have hK : va_K D vwCl (([] : List (ClassId × FieldType)) ++ tysTr u1.2 ++ tysTe u2.2 ++ tysTw u3.2 ++ tysTw u4.2) s := hK'
  clear hK'
  have hP : va_P D vwCl ((h0, .inr (10, [.ref (u1.1 0), .ref (u2.1 0), .ref (u3.1 0), .null, .null, .null, .null, .null, .null, .int 0, .int 0, .long 0, .long 0, .int 0, .int 0, .int 0])) :: (([] : va_W) ++ blkTr u1.1 u1.2 ++ blkTe u2.1 u2.2 ++ blkTw u3.1 u3.2 ++ blkTw u4.1 u4.2)) H := hP'
  have hD : va_D A ((h0, .inr (10, [.ref (u1.1 0), .ref (u2.1 0), .ref (u3.1 0), .null, .null, .null, .null, .null, .null, .int 0, .int 0, .long 0, .long 0, .int 0, .int 0, .int 0])) :: (([] : va_W) ++ blkTr u1.1 u1.2 ++ blkTe u2.1 u2.2 ++ blkTw u3.1 u3.2 ++ blkTw u4.1 u4.2)) := hD'
  clear hP' hD'
  refine va_putF (D := D) (ci := 10) (v := .ref (u4.1 0)) (ty := (.object "PaperBread$Town")) (C := RX10) (T := TX10) (N := 16) hx hb hts2 lay1 _ lay3 lay4 hown hK hP hD hS 0 rfl rfl 3 (by decide) (hts2 (.fieldLink RX10 30 RX10 "draft" "LPaperBread$Town;") (mTBm 2 225 rfl rfl)) (fun _ h9 => h9) rfl hin rfl (by decide +kernel) rfl rfl (Nat.le_of_ble_eq_true rfl) dI_Pb_45 (fun H locs hP' hD' hS' => ?_)
  clear hP hD hS
  have hS := hS'
  clear hS'
  have hP : va_P D vwCl ((h0, .inr (10, [.ref (u1.1 0), .ref (u2.1 0), .ref (u3.1 0), .ref (u4.1 0), .null, .null, .null, .null, .null, .int 0, .int 0, .long 0, .long 0, .int 0, .int 0, .int 0])) :: (([] : va_W) ++ blkTr u1.1 u1.2 ++ blkTe u2.1 u2.2 ++ blkTw u3.1 u3.2 ++ blkTw u4.1 u4.2)) H := hP'
  have hD : va_D A ((h0, .inr (10, [.ref (u1.1 0), .ref (u2.1 0), .ref (u3.1 0), .ref (u4.1 0), .null, .null, .null, .null, .null, .int 0, .int 0, .long 0, .long 0, .int 0, .int 0, .int 0])) :: (([] : va_W) ++ blkTr u1.1 u1.2 ++ blkTe u2.1 u2.2 ++ blkTw u3.1 u3.2 ++ blkTw u4.1 u4.2)) := hD'
  clear hP' hD'
  refine lv_aload_n hx hb dI_Pb_48 rfl (lv_at hl 0 rfl) ?_
  refine lv_iconst hx hb dI_Pb_49 (v := nI 3) rfl ?_
  refine va_newq (C := "PaperBread$Town") hx hb hown (hts2 (.classLink RX10 23 RX8) (mTBm 1 158 rfl rfl)) hAO hK hP hD hS hA (n := nI 3) (N' := 3) (nI_pos (by decide)) (nI_clamp (by decide)) (Nat.le_of_ble_eq_true rfl) (Nat.le_of_ble_eq_true rfl) (Nat.le_of_ble_eq_true rfl) dI_Pb_50 (fun qm cm H hK' hP' hD' hS' => ?_)
  clear hP hD hS
  have hS := hS'
  clear hS'
  have hKm := kl_K hK'
  have hK : va_K D vwCl (([] : List (ClassId × FieldType)) ++ tysTr u1.2 ++ tysTe u2.2 ++ tysTw u3.2 ++ tysTw u4.2 ++ [(cm, .object "PaperBread$Town")]) s := hK'
  have hP'' : va_P D vwCl ((h0, .inr (10, [.ref (u1.1 0), .ref (u2.1 0), .ref (u3.1 0), .ref (u4.1 0), .null, .null, .null, .null, .null, .int 0, .int 0, .long 0, .long 0, .int 0, .int 0, .int 0])) :: ((([] : va_W) ++ blkTr u1.1 u1.2 ++ blkTe u2.1 u2.2 ++ blkTw u3.1 u3.2 ++ blkTw u4.1 u4.2) ++ [(qm, .inl (cm, 3, .inr (.inr (.inr (.inr (fun _ => none))))))])) H := hP'
  have hD'' : va_D A ((h0, .inr (10, [.ref (u1.1 0), .ref (u2.1 0), .ref (u3.1 0), .ref (u4.1 0), .null, .null, .null, .null, .null, .int 0, .int 0, .long 0, .long 0, .int 0, .int 0, .int 0])) :: ((([] : va_W) ++ blkTr u1.1 u1.2 ++ blkTe u2.1 u2.2 ++ blkTw u3.1 u3.2 ++ blkTw u4.1 u4.2) ++ [(qm, .inl (cm, 3, .inr (.inr (.inr (.inr (fun _ => none))))))])) := hD'
  have hP : va_P D vwCl ((h0, .inr (10, [.ref (u1.1 0), .ref (u2.1 0), .ref (u3.1 0), .ref (u4.1 0), .null, .null, .null, .null, .null, .int 0, .int 0, .long 0, .long 0, .int 0, .int 0, .int 0])) :: (qm, .inl (cm, 3, .inr (.inr (.inr (.inr (fun _ => none)))))) :: (([] : va_W) ++ blkTr u1.1 u1.2 ++ blkTe u2.1 u2.2 ++ blkTw u3.1 u3.2 ++ blkTw u4.1 u4.2)) H := kl_Pp (List.Perm.cons _ (List.perm_append_singleton _ _)) hP''
  have hD : va_D A ((h0, .inr (10, [.ref (u1.1 0), .ref (u2.1 0), .ref (u3.1 0), .ref (u4.1 0), .null, .null, .null, .null, .null, .int 0, .int 0, .long 0, .long 0, .int 0, .int 0, .int 0])) :: (qm, .inl (cm, 3, .inr (.inr (.inr (.inr (fun _ => none)))))) :: (([] : va_W) ++ blkTr u1.1 u1.2 ++ blkTe u2.1 u2.2 ++ blkTw u3.1 u3.2 ++ blkTw u4.1 u4.2)) := kl_Dp (List.Perm.cons _ (List.perm_append_singleton _ _)) hD''
  clear hP' hD' hP'' hD''
  refine va_putF (D := D) (ci := 10) (v := .ref qm) (ty := (.array (.object "PaperBread$Town"))) (C := RX10) (T := TX10) (N := 16) hx hb hts2 lay1 _ lay3 lay4 hown hK hP hD hS 0 rfl rfl 4 (by decide) (hts2 (.fieldLink RX10 33 RX10 "marks" "[LPaperBread$Town;") (mTBm 2 226 rfl rfl)) (fun _ h9 => h9) rfl hin rfl (by decide +kernel) rfl rfl (Nat.le_of_ble_eq_true rfl) dI_Pb_53 (fun H locs hP' hD' hS' => ?_)
  clear hP hD hS
  have hS := hS'
  clear hS'
  have hP : va_P D vwCl ((h0, .inr (10, [.ref (u1.1 0), .ref (u2.1 0), .ref (u3.1 0), .ref (u4.1 0), .ref qm, .null, .null, .null, .null, .int 0, .int 0, .long 0, .long 0, .int 0, .int 0, .int 0])) :: (qm, .inl (cm, 3, .inr (.inr (.inr (.inr (fun _ => none)))))) :: (([] : va_W) ++ blkTr u1.1 u1.2 ++ blkTe u2.1 u2.2 ++ blkTw u3.1 u3.2 ++ blkTw u4.1 u4.2)) H := hP'
  have hD : va_D A ((h0, .inr (10, [.ref (u1.1 0), .ref (u2.1 0), .ref (u3.1 0), .ref (u4.1 0), .ref qm, .null, .null, .null, .null, .int 0, .int 0, .long 0, .long 0, .int 0, .int 0, .int 0])) :: (qm, .inl (cm, 3, .inr (.inr (.inr (.inr (fun _ => none)))))) :: (([] : va_W) ++ blkTr u1.1 u1.2 ++ blkTe u2.1 u2.2 ++ blkTw u3.1 u3.2 ++ blkTw u4.1 u4.2)) := hD'
  clear hP' hD'
  refine lv_aload_n hx hb dI_Pb_56 rfl (lv_at hl 0 rfl) ?_
  refine va_new (D := D) (ci := 5) (fs := [.null, .null, .null, .null, .null, .null, .int 0]) (C := RX5) (T := TX5) (N := 7) hx hb hts2 (mLay (show vwCl[5]? = some (RX5, TX5, 7) from rfl)).1 (mTyF 5) (mLay (show vwCl[5]? = some (RX5, TX5, 7) from rfl)).2.2.1 hown (hts2 (.classLink RX10 37 RX5) (mTBm 2 119 rfl rfl)) (hts2 (.instantiable RX5 7) (mTBm 2 120 rfl rfl)) (hts2 (.initialized RX5) (mTBm 1 14 rfl rfl)) hK hP hD hS hA rfl dv_Sh (Nat.le_of_ble_eq_true rfl) (Nat.le_of_ble_eq_true rfl) dI_Pb_57 (fun q5 H hP' hD' hS' => ?_)
  clear hP hD hS
  have hS := hS'
  clear hS'
  have hP := hP'
  have hD := hD'
  clear hP' hD'
  refine lv_dup hx hb dI_Pb_60 rfl ?_
  have hPc := kl_P hP
  have hDc := kl_D hD
  have hKc := hK.sub (tys' := []) [] rfl
  have hFc := kl_F hD hS hA
  refine va_callv (va_runIN (b := q5) (As := []) (rest := .ref q5 :: [.ref h0]) ⟨hx, hb, hml, hown, hts2⟩ (cI_Sh l D q5 H.size) ⟨va_cnB (host := "PaperBread") 0 hts2 (mGoodI (M' := mI_Sh) (fun _ h => h) (mTBm 2 123 rfl rfl)) rfl rfl rfl (hN (.methodLinkNest RX10 39 (mY mI_Sh) "PaperBread") (List.mem_of_getElem? (i := 5) rfl)) (hts2 (.initialized RX5) (mTBm 1 14 rfl rfl)) ⟨by decide +kernel, by decide +kernel, by decide +kernel⟩ ⟨Nat.le_of_ble_eq_true rfl, Nat.le_of_ble_eq_true rfl⟩, rfl, (hts2 (.instanceMethod (mY mI_Sh)) (mTBm 2 122 rfl rfl))⟩ ⟨fun a U g mk q => by obtain ⟨q0, q1, qP, qK, qD⟩ := q; exact ⟨q0, q1, qP, va_K.moved (u := U) (U := U.calling g mk a) (Vm.Alike.refl U.vm) qK, qD⟩, fun U hU hW => ⟨rfl, by rw [hU], by rw [hU]; exact hPc, va_K.moved hW.alike hKc, hDc.weaken (fun _ _ _ _ => trivial)⟩⟩ rfl rfl hl.1 rfl (lv_room (Nat.le_of_ble_eq_true rfl)) dI_Pb_61 ⟨Nat.le_of_ble_eq_true rfl, Nat.le_of_ble_eq_true rfl⟩) hS (fun q _ h => hFc q h) hFc (fun u5 t H1 locs ht hvm hw hB hz1 hk1 hS' => ?_)
  obtain ⟨hP1, hK1, hD1⟩ := hB
  rw [ht] at hP1
  have hK1 := va_K.moved hvm.symm hK1
  clear hPc hDc hKc
  subst hw
  obtain ⟨hP', hD'⟩ := kl_J hP hD hk1 hFc hP1 hD1
  clear hFc hz1 hk1 hP1 hD1
  clear hP hD hS
  have hS := hS'
  clear hS'
  have hK' := hK.app hK1
  clear hK hK1
  clear ht hvm
  generalize H1 = H at hP' hS ⊢
  have hK : va_K D vwCl (([] : List (ClassId × FieldType)) ++ tysTr u1.2 ++ tysTe u2.2 ++ tysTw u3.2 ++ tysTw u4.2 ++ [(cm, .object "PaperBread$Town")] ++ tysSh u5.2) s := hK'
  clear hK'
  have hP : va_P D vwCl ((h0, .inr (10, [.ref (u1.1 0), .ref (u2.1 0), .ref (u3.1 0), .ref (u4.1 0), .ref qm, .null, .null, .null, .null, .int 0, .int 0, .long 0, .long 0, .int 0, .int 0, .int 0])) :: (qm, .inl (cm, 3, .inr (.inr (.inr (.inr (fun _ => none)))))) :: (([] : va_W) ++ blkTr u1.1 u1.2 ++ blkTe u2.1 u2.2 ++ blkTw u3.1 u3.2 ++ blkTw u4.1 u4.2 ++ blkSh u5.1 u5.2)) H := hP'
  have hD : va_D A ((h0, .inr (10, [.ref (u1.1 0), .ref (u2.1 0), .ref (u3.1 0), .ref (u4.1 0), .ref qm, .null, .null, .null, .null, .int 0, .int 0, .long 0, .long 0, .int 0, .int 0, .int 0])) :: (qm, .inl (cm, 3, .inr (.inr (.inr (.inr (fun _ => none)))))) :: (([] : va_W) ++ blkTr u1.1 u1.2 ++ blkTe u2.1 u2.2 ++ blkTw u3.1 u3.2 ++ blkTw u4.1 u4.2 ++ blkSh u5.1 u5.2)) := hD'
  clear hP' hD'
  refine va_putF (D := D) (ci := 10) (v := .ref (u5.1 0)) (ty := (.object "PaperBread$Share")) (C := RX10) (T := TX10) (N := 16) hx hb hts2 lay1 _ lay3 lay4 hown hK hP hD hS 0 rfl rfl 5 (by decide) (hts2 (.fieldLink RX10 40 RX10 "share" "LPaperBread$Share;") (mTBm 2 227 rfl rfl)) (fun _ h9 => h9) rfl hin rfl (by decide +kernel) rfl rfl (Nat.le_of_ble_eq_true rfl) dI_Pb_64 (fun H locs hP' hD' hS' => ?_)
  clear hP hD hS
  have hS := hS'
  clear hS'
  have hP : va_P D vwCl ((h0, .inr (10, [.ref (u1.1 0), .ref (u2.1 0), .ref (u3.1 0), .ref (u4.1 0), .ref qm, .ref (u5.1 0), .null, .null, .null, .int 0, .int 0, .long 0, .long 0, .int 0, .int 0, .int 0])) :: (qm, .inl (cm, 3, .inr (.inr (.inr (.inr (fun _ => none)))))) :: (([] : va_W) ++ blkTr u1.1 u1.2 ++ blkTe u2.1 u2.2 ++ blkTw u3.1 u3.2 ++ blkTw u4.1 u4.2 ++ blkSh u5.1 u5.2)) H := hP'
  have hD : va_D A ((h0, .inr (10, [.ref (u1.1 0), .ref (u2.1 0), .ref (u3.1 0), .ref (u4.1 0), .ref qm, .ref (u5.1 0), .null, .null, .null, .int 0, .int 0, .long 0, .long 0, .int 0, .int 0, .int 0])) :: (qm, .inl (cm, 3, .inr (.inr (.inr (.inr (fun _ => none)))))) :: (([] : va_W) ++ blkTr u1.1 u1.2 ++ blkTe u2.1 u2.2 ++ blkTw u3.1 u3.2 ++ blkTw u4.1 u4.2 ++ blkSh u5.1 u5.2)) := hD'
  clear hP' hD'
  refine lv_aload_n hx hb dI_Pb_67 rfl (lv_at hl 0 rfl) ?_
  refine va_new (D := D) (ci := 3) (fs := [.null, .null, .null, .null, .int 0]) (C := RX3) (T := TX3) (N := 5) hx hb hts2 (mLay (show vwCl[3]? = some (RX3, TX3, 5) from rfl)).1 (mTyF 3) (mLay (show vwCl[3]? = some (RX3, TX3, 5) from rfl)).2.2.1 hown (hts2 (.classLink RX10 44 RX3) (mTBm 2 156 rfl rfl)) (hts2 (.instantiable RX3 5) (mTBm 2 157 rfl rfl)) (hts2 (.initialized RX3) (mTBm 1 15 rfl rfl)) hK hP hD hS hA rfl dv_Ne (Nat.le_of_ble_eq_true rfl) (Nat.le_of_ble_eq_true rfl) dI_Pb_68 (fun q6 H hP' hD' hS' => ?_)
  clear hP hD hS
  have hS := hS'
  clear hS'
  have hP := hP'
  have hD := hD'
  clear hP' hD'
  refine lv_dup hx hb dI_Pb_71 rfl ?_
  have hPc := kl_P hP
  have hDc := kl_D hD
  have hKc := hK.sub (tys' := []) [] rfl
  have hFc := kl_F hD hS hA
  refine va_callv (va_runIN (b := q6) (As := []) (rest := .ref q6 :: [.ref h0]) ⟨hx, hb, hml, hown, hts2⟩ (cI_Ne l D q6 H.size) ⟨va_cnB (host := "PaperBread") 0 hts2 (mGoodI (M' := mI_Ne) (fun _ h => h) (mTBm 2 160 rfl rfl)) rfl rfl rfl (hN (.methodLinkNest RX10 46 (mY mI_Ne) "PaperBread") (List.mem_of_getElem? (i := 6) rfl)) (hts2 (.initialized RX3) (mTBm 1 15 rfl rfl)) ⟨by decide +kernel, by decide +kernel, by decide +kernel⟩ ⟨Nat.le_of_ble_eq_true rfl, Nat.le_of_ble_eq_true rfl⟩, rfl, (hts2 (.instanceMethod (mY mI_Ne)) (mTBm 2 159 rfl rfl))⟩ ⟨fun a U g mk q => by obtain ⟨q0, q1, qP, qK, qD⟩ := q; exact ⟨q0, q1, qP, va_K.moved (u := U) (U := U.calling g mk a) (Vm.Alike.refl U.vm) qK, qD⟩, fun U hU hW => ⟨rfl, by rw [hU], by rw [hU]; exact hPc, va_K.moved hW.alike hKc, hDc.weaken (fun _ _ _ _ => trivial)⟩⟩ rfl rfl hl.1 rfl (lv_room (Nat.le_of_ble_eq_true rfl)) dI_Pb_72 ⟨Nat.le_of_ble_eq_true rfl, Nat.le_of_ble_eq_true rfl⟩) hS (fun q _ h => hFc q h) hFc (fun u6 t H1 locs ht hvm hw hB hz1 hk1 hS' => ?_)
  obtain ⟨hP1, hK1, hD1⟩ := hB
  rw [ht] at hP1
  have hK1 := va_K.moved hvm.symm hK1
  clear hPc hDc hKc
  subst hw
  obtain ⟨hP', hD'⟩ := kl_J hP hD hk1 hFc hP1 hD1
  clear hFc hz1 hk1 hP1 hD1
  clear hP hD hS
  have hS := hS'
  clear hS'
  have hK' := hK.app hK1
  clear hK hK1
  clear ht hvm
  generalize H1 = H at hP' hS ⊢
  have hK : va_K D vwCl (([] : List (ClassId × FieldType)) ++ tysTr u1.2 ++ tysTe u2.2 ++ tysTw u3.2 ++ tysTw u4.2 ++ [(cm, .object "PaperBread$Town")] ++ tysSh u5.2 ++ tysNe u6.2) s := hK'
  clear hK'
  have hP : va_P D vwCl ((h0, .inr (10, [.ref (u1.1 0), .ref (u2.1 0), .ref (u3.1 0), .ref (u4.1 0), .ref qm, .ref (u5.1 0), .null, .null, .null, .int 0, .int 0, .long 0, .long 0, .int 0, .int 0, .int 0])) :: (qm, .inl (cm, 3, .inr (.inr (.inr (.inr (fun _ => none)))))) :: (([] : va_W) ++ blkTr u1.1 u1.2 ++ blkTe u2.1 u2.2 ++ blkTw u3.1 u3.2 ++ blkTw u4.1 u4.2 ++ blkSh u5.1 u5.2 ++ blkNe u6.1 u6.2)) H := hP'
  have hD : va_D A ((h0, .inr (10, [.ref (u1.1 0), .ref (u2.1 0), .ref (u3.1 0), .ref (u4.1 0), .ref qm, .ref (u5.1 0), .null, .null, .null, .int 0, .int 0, .long 0, .long 0, .int 0, .int 0, .int 0])) :: (qm, .inl (cm, 3, .inr (.inr (.inr (.inr (fun _ => none)))))) :: (([] : va_W) ++ blkTr u1.1 u1.2 ++ blkTe u2.1 u2.2 ++ blkTw u3.1 u3.2 ++ blkTw u4.1 u4.2 ++ blkSh u5.1 u5.2 ++ blkNe u6.1 u6.2)) := hD'
  clear hP' hD'
  refine va_putF (D := D) (ci := 10) (v := .ref (u6.1 0)) (ty := (.object "PaperBread$Netting")) (C := RX10) (T := TX10) (N := 16) hx hb hts2 lay1 _ lay3 lay4 hown hK hP hD hS 0 rfl rfl 6 (by decide) (hts2 (.fieldLink RX10 47 RX10 "netting" "LPaperBread$Netting;") (mTBm 2 228 rfl rfl)) (fun _ h9 => h9) rfl hin rfl (by decide +kernel) rfl rfl (Nat.le_of_ble_eq_true rfl) dI_Pb_75 (fun H locs hP' hD' hS' => ?_)
  clear hP hD hS
  have hS := hS'
  clear hS'
  have hP : va_P D vwCl ((h0, .inr (10, [.ref (u1.1 0), .ref (u2.1 0), .ref (u3.1 0), .ref (u4.1 0), .ref qm, .ref (u5.1 0), .ref (u6.1 0), .null, .null, .int 0, .int 0, .long 0, .long 0, .int 0, .int 0, .int 0])) :: (qm, .inl (cm, 3, .inr (.inr (.inr (.inr (fun _ => none)))))) :: (([] : va_W) ++ blkTr u1.1 u1.2 ++ blkTe u2.1 u2.2 ++ blkTw u3.1 u3.2 ++ blkTw u4.1 u4.2 ++ blkSh u5.1 u5.2 ++ blkNe u6.1 u6.2)) H := hP'
  have hD : va_D A ((h0, .inr (10, [.ref (u1.1 0), .ref (u2.1 0), .ref (u3.1 0), .ref (u4.1 0), .ref qm, .ref (u5.1 0), .ref (u6.1 0), .null, .null, .int 0, .int 0, .long 0, .long 0, .int 0, .int 0, .int 0])) :: (qm, .inl (cm, 3, .inr (.inr (.inr (.inr (fun _ => none)))))) :: (([] : va_W) ++ blkTr u1.1 u1.2 ++ blkTe u2.1 u2.2 ++ blkTw u3.1 u3.2 ++ blkTw u4.1 u4.2 ++ blkSh u5.1 u5.2 ++ blkNe u6.1 u6.2)) := hD'
  clear hP' hD'
  refine lv_aload_n hx hb dI_Pb_78 rfl (lv_at hl 0 rfl) ?_
  refine va_new (D := D) (ci := 1) (fs := [.null, .null, .int 0, .int 0, .int 0, .int 0, .int 0, .int 0, .int 0]) (C := RX1) (T := TX1) (N := 9) hx hb hts2 (mLay (show vwCl[1]? = some (RX1, TX1, 9) from rfl)).1 (mTyF 1) (mLay (show vwCl[1]? = some (RX1, TX1, 9) from rfl)).2.2.1 hown (hts2 (.classLink RX10 51 RX1) (mTBm 2 180 rfl rfl)) (hts2 (.instantiable RX1 9) (mTBm 2 181 rfl rfl)) (hts2 (.initialized RX1) (mTBm 1 16 rfl rfl)) hK hP hD hS hA rfl dv_Li (Nat.le_of_ble_eq_true rfl) (Nat.le_of_ble_eq_true rfl) dI_Pb_79 (fun q7 H hP' hD' hS' => ?_)
  clear hP hD hS
  have hS := hS'
  clear hS'
  have hP := hP'
  have hD := hD'
  clear hP' hD'
  refine lv_dup hx hb dI_Pb_82 rfl ?_
  have hPc := kl_P hP
  have hDc := kl_D hD
  have hKc := hK.sub (tys' := []) [] rfl
  have hFc := kl_F hD hS hA
  refine va_callv (va_runIN (b := q7) (As := []) (rest := .ref q7 :: [.ref h0]) ⟨hx, hb, hml, hown, hts2⟩ (cI_Li l D q7 H.size) ⟨va_cnB (host := "PaperBread") 0 hts2 (mGoodI (M' := mI_Li) (fun _ h => h) (mTBm 2 184 rfl rfl)) rfl rfl rfl (hN (.methodLinkNest RX10 53 (mY mI_Li) "PaperBread") (List.mem_of_getElem? (i := 7) rfl)) (hts2 (.initialized RX1) (mTBm 1 16 rfl rfl)) ⟨by decide +kernel, by decide +kernel, by decide +kernel⟩ ⟨Nat.le_of_ble_eq_true rfl, Nat.le_of_ble_eq_true rfl⟩, rfl, (hts2 (.instanceMethod (mY mI_Li)) (mTBm 2 183 rfl rfl))⟩ ⟨fun a U g mk q => by obtain ⟨q0, q1, qP, qK, qD, qN⟩ := q; exact ⟨q0, q1, qP, va_K.moved (u := U) (U := U.calling g mk a) (Vm.Alike.refl U.vm) qK, qD, kN.same (u := U) (U := U.calling g mk a) rfl qN⟩, fun U hU hW => ⟨rfl, by rw [hU], by rw [hU]; exact hPc, va_K.moved hW.alike hKc, hDc.weaken (fun _ _ _ _ => trivial), hN.warm hW⟩⟩ rfl rfl hl.1 rfl (lv_room (Nat.le_of_ble_eq_true rfl)) dI_Pb_83 ⟨Nat.le_of_ble_eq_true rfl, Nat.le_of_ble_eq_true rfl⟩) hS (fun q _ h => hFc q h) hFc (fun u7 t H1 locs ht hvm hw hB hz1 hk1 hS' => ?_)
  obtain ⟨hP1, hK1, hD1⟩ := hB
  rw [ht] at hP1
  have hK1 := va_K.moved hvm.symm hK1
  clear hPc hDc hKc
  subst hw
  obtain ⟨hP', hD'⟩ := kl_J hP hD hk1 hFc hP1 hD1
  clear hFc hz1 hk1 hP1 hD1
  clear hP hD hS
  have hS := hS'
  clear hS'
  have hK' := hK.app hK1
  clear hK hK1
  clear ht hvm
  generalize H1 = H at hP' hS ⊢
  have hK : va_K D vwCl (([] : List (ClassId × FieldType)) ++ tysTr u1.2 ++ tysTe u2.2 ++ tysTw u3.2 ++ tysTw u4.2 ++ [(cm, .object "PaperBread$Town")] ++ tysSh u5.2 ++ tysNe u6.2 ++ tysLi u7.2) s := hK'
  clear hK'
  have hP : va_P D vwCl ((h0, .inr (10, [.ref (u1.1 0), .ref (u2.1 0), .ref (u3.1 0), .ref (u4.1 0), .ref qm, .ref (u5.1 0), .ref (u6.1 0), .null, .null, .int 0, .int 0, .long 0, .long 0, .int 0, .int 0, .int 0])) :: (qm, .inl (cm, 3, .inr (.inr (.inr (.inr (fun _ => none)))))) :: (([] : va_W) ++ blkTr u1.1 u1.2 ++ blkTe u2.1 u2.2 ++ blkTw u3.1 u3.2 ++ blkTw u4.1 u4.2 ++ blkSh u5.1 u5.2 ++ blkNe u6.1 u6.2 ++ blkLi u7.1 u7.2)) H := hP'
  have hD : va_D A ((h0, .inr (10, [.ref (u1.1 0), .ref (u2.1 0), .ref (u3.1 0), .ref (u4.1 0), .ref qm, .ref (u5.1 0), .ref (u6.1 0), .null, .null, .int 0, .int 0, .long 0, .long 0, .int 0, .int 0, .int 0])) :: (qm, .inl (cm, 3, .inr (.inr (.inr (.inr (fun _ => none)))))) :: (([] : va_W) ++ blkTr u1.1 u1.2 ++ blkTe u2.1 u2.2 ++ blkTw u3.1 u3.2 ++ blkTw u4.1 u4.2 ++ blkSh u5.1 u5.2 ++ blkNe u6.1 u6.2 ++ blkLi u7.1 u7.2)) := hD'
  clear hP' hD'
  refine va_putF (D := D) (ci := 10) (v := .ref (u7.1 0)) (ty := (.object "PaperBread$Living")) (C := RX10) (T := TX10) (N := 16) hx hb hts2 lay1 _ lay3 lay4 hown hK hP hD hS 0 rfl rfl 7 (by decide) (hts2 (.fieldLink RX10 54 RX10 "living" "LPaperBread$Living;") (mTBm 2 229 rfl rfl)) (fun _ h9 => h9) rfl hin rfl (by decide +kernel) rfl rfl (Nat.le_of_ble_eq_true rfl) dI_Pb_86 (fun H locs hP' hD' hS' => ?_)
  clear hP hD hS
  have hS := hS'
  clear hS'
  have hP : va_P D vwCl ((h0, .inr (10, [.ref (u1.1 0), .ref (u2.1 0), .ref (u3.1 0), .ref (u4.1 0), .ref qm, .ref (u5.1 0), .ref (u6.1 0), .ref (u7.1 0), .null, .int 0, .int 0, .long 0, .long 0, .int 0, .int 0, .int 0])) :: (qm, .inl (cm, 3, .inr (.inr (.inr (.inr (fun _ => none)))))) :: (([] : va_W) ++ blkTr u1.1 u1.2 ++ blkTe u2.1 u2.2 ++ blkTw u3.1 u3.2 ++ blkTw u4.1 u4.2 ++ blkSh u5.1 u5.2 ++ blkNe u6.1 u6.2 ++ blkLi u7.1 u7.2)) H := hP'
  have hD : va_D A ((h0, .inr (10, [.ref (u1.1 0), .ref (u2.1 0), .ref (u3.1 0), .ref (u4.1 0), .ref qm, .ref (u5.1 0), .ref (u6.1 0), .ref (u7.1 0), .null, .int 0, .int 0, .long 0, .long 0, .int 0, .int 0, .int 0])) :: (qm, .inl (cm, 3, .inr (.inr (.inr (.inr (fun _ => none)))))) :: (([] : va_W) ++ blkTr u1.1 u1.2 ++ blkTe u2.1 u2.2 ++ blkTw u3.1 u3.2 ++ blkTw u4.1 u4.2 ++ blkSh u5.1 u5.2 ++ blkNe u6.1 u6.2 ++ blkLi u7.1 u7.2)) := hD'
  clear hP' hD'
  refine lv_aload_n hx hb dI_Pb_89 rfl (lv_at hl 0 rfl) ?_
  refine va_new (D := D) (ci := 1) (fs := [.null, .null, .int 0, .int 0, .int 0, .int 0, .int 0, .int 0, .int 0]) (C := RX1) (T := TX1) (N := 9) hx hb hts2 (mLay (show vwCl[1]? = some (RX1, TX1, 9) from rfl)).1 (mTyF 1) (mLay (show vwCl[1]? = some (RX1, TX1, 9) from rfl)).2.2.1 hown (hts2 (.classLink RX10 51 RX1) (mTBm 2 180 rfl rfl)) (hts2 (.instantiable RX1 9) (mTBm 2 181 rfl rfl)) (hts2 (.initialized RX1) (mTBm 1 16 rfl rfl)) hK hP hD hS hA rfl dv_Li (Nat.le_of_ble_eq_true rfl) (Nat.le_of_ble_eq_true rfl) dI_Pb_90 (fun q8 H hP' hD' hS' => ?_)
  clear hP hD hS
  have hS := hS'
  clear hS'
  have hP := hP'
  have hD := hD'
  clear hP' hD'
  refine lv_dup hx hb dI_Pb_93 rfl ?_
  have hPc := kl_P hP
  have hDc := kl_D hD
  have hKc := hK.sub (tys' := []) [] rfl
  have hFc := kl_F hD hS hA
  refine va_callv (va_runIN (b := q8) (As := []) (rest := .ref q8 :: [.ref h0]) ⟨hx, hb, hml, hown, hts2⟩ (cI_Li l D q8 H.size) ⟨va_cnB (host := "PaperBread") 0 hts2 (mGoodI (M' := mI_Li) (fun _ h => h) (mTBm 2 184 rfl rfl)) rfl rfl rfl (hN (.methodLinkNest RX10 53 (mY mI_Li) "PaperBread") (List.mem_of_getElem? (i := 7) rfl)) (hts2 (.initialized RX1) (mTBm 1 16 rfl rfl)) ⟨by decide +kernel, by decide +kernel, by decide +kernel⟩ ⟨Nat.le_of_ble_eq_true rfl, Nat.le_of_ble_eq_true rfl⟩, rfl, (hts2 (.instanceMethod (mY mI_Li)) (mTBm 2 183 rfl rfl))⟩ ⟨fun a U g mk q => by obtain ⟨q0, q1, qP, qK, qD, qN⟩ := q; exact ⟨q0, q1, qP, va_K.moved (u := U) (U := U.calling g mk a) (Vm.Alike.refl U.vm) qK, qD, kN.same (u := U) (U := U.calling g mk a) rfl qN⟩, fun U hU hW => ⟨rfl, by rw [hU], by rw [hU]; exact hPc, va_K.moved hW.alike hKc, hDc.weaken (fun _ _ _ _ => trivial), hN.warm hW⟩⟩ rfl rfl hl.1 rfl (lv_room (Nat.le_of_ble_eq_true rfl)) dI_Pb_94 ⟨Nat.le_of_ble_eq_true rfl, Nat.le_of_ble_eq_true rfl⟩) hS (fun q _ h => hFc q h) hFc (fun u8 t H1 locs ht hvm hw hB hz1 hk1 hS' => ?_)
  obtain ⟨hP1, hK1, hD1⟩ := hB
  rw [ht] at hP1
  have hK1 := va_K.moved hvm.symm hK1
  clear hPc hDc hKc
  subst hw
  obtain ⟨hP', hD'⟩ := kl_J hP hD hk1 hFc hP1 hD1
  clear hFc hz1 hk1 hP1 hD1
  clear hP hD hS
  have hS := hS'
  clear hS'
  have hK' := hK.app hK1
  clear hK hK1
  clear ht hvm
  generalize H1 = H at hP' hS ⊢
  have hK : va_K D vwCl (([] : List (ClassId × FieldType)) ++ tysTr u1.2 ++ tysTe u2.2 ++ tysTw u3.2 ++ tysTw u4.2 ++ [(cm, .object "PaperBread$Town")] ++ tysSh u5.2 ++ tysNe u6.2 ++ tysLi u7.2 ++ tysLi u8.2) s := hK'
  clear hK'
  have hP : va_P D vwCl ((h0, .inr (10, [.ref (u1.1 0), .ref (u2.1 0), .ref (u3.1 0), .ref (u4.1 0), .ref qm, .ref (u5.1 0), .ref (u6.1 0), .ref (u7.1 0), .null, .int 0, .int 0, .long 0, .long 0, .int 0, .int 0, .int 0])) :: (qm, .inl (cm, 3, .inr (.inr (.inr (.inr (fun _ => none)))))) :: (([] : va_W) ++ blkTr u1.1 u1.2 ++ blkTe u2.1 u2.2 ++ blkTw u3.1 u3.2 ++ blkTw u4.1 u4.2 ++ blkSh u5.1 u5.2 ++ blkNe u6.1 u6.2 ++ blkLi u7.1 u7.2 ++ blkLi u8.1 u8.2)) H := hP'
  have hD : va_D A ((h0, .inr (10, [.ref (u1.1 0), .ref (u2.1 0), .ref (u3.1 0), .ref (u4.1 0), .ref qm, .ref (u5.1 0), .ref (u6.1 0), .ref (u7.1 0), .null, .int 0, .int 0, .long 0, .long 0, .int 0, .int 0, .int 0])) :: (qm, .inl (cm, 3, .inr (.inr (.inr (.inr (fun _ => none)))))) :: (([] : va_W) ++ blkTr u1.1 u1.2 ++ blkTe u2.1 u2.2 ++ blkTw u3.1 u3.2 ++ blkTw u4.1 u4.2 ++ blkSh u5.1 u5.2 ++ blkNe u6.1 u6.2 ++ blkLi u7.1 u7.2 ++ blkLi u8.1 u8.2)) := hD'
  clear hP' hD'
  refine va_putF (D := D) (ci := 10) (v := .ref (u8.1 0)) (ty := (.object "PaperBread$Living")) (C := RX10) (T := TX10) (N := 16) hx hb hts2 lay1 _ lay3 lay4 hown hK hP hD hS 0 rfl rfl 8 (by decide) (hts2 (.fieldLink RX10 58 RX10 "trial" "LPaperBread$Living;") (mTBm 2 230 rfl rfl)) (fun _ h9 => h9) rfl hin rfl (by decide +kernel) rfl rfl (Nat.le_of_ble_eq_true rfl) dI_Pb_97 (fun H locs hP' hD' hS' => ?_)
  clear hP hD hS
  have hS := hS'
  clear hS'
  have hP : va_P D vwCl ((h0, .inr (10, [.ref (u1.1 0), .ref (u2.1 0), .ref (u3.1 0), .ref (u4.1 0), .ref qm, .ref (u5.1 0), .ref (u6.1 0), .ref (u7.1 0), .ref (u8.1 0), .int 0, .int 0, .long 0, .long 0, .int 0, .int 0, .int 0])) :: (qm, .inl (cm, 3, .inr (.inr (.inr (.inr (fun _ => none)))))) :: (([] : va_W) ++ blkTr u1.1 u1.2 ++ blkTe u2.1 u2.2 ++ blkTw u3.1 u3.2 ++ blkTw u4.1 u4.2 ++ blkSh u5.1 u5.2 ++ blkNe u6.1 u6.2 ++ blkLi u7.1 u7.2 ++ blkLi u8.1 u8.2)) H := hP'
  have hD : va_D A ((h0, .inr (10, [.ref (u1.1 0), .ref (u2.1 0), .ref (u3.1 0), .ref (u4.1 0), .ref qm, .ref (u5.1 0), .ref (u6.1 0), .ref (u7.1 0), .ref (u8.1 0), .int 0, .int 0, .long 0, .long 0, .int 0, .int 0, .int 0])) :: (qm, .inl (cm, 3, .inr (.inr (.inr (.inr (fun _ => none)))))) :: (([] : va_W) ++ blkTr u1.1 u1.2 ++ blkTe u2.1 u2.2 ++ blkTw u3.1 u3.2 ++ blkTw u4.1 u4.2 ++ blkSh u5.1 u5.2 ++ blkNe u6.1 u6.2 ++ blkLi u7.1 u7.2 ++ blkLi u8.1 u8.2)) := hD'
  clear hP' hD'
  refine lv_aload_n hx hb dI_Pb_100 rfl (lv_at hl 0 rfl) ?_
  refine lv_lconst hx hb dI_Pb_101 (v := 1) rfl ?_
  refine va_put (D := D) (ci := 10) (v := .long 1) (ty := .long) (C := RX10) (T := TX10) (N := 16) hx hb hts2 lay1 _ lay3 lay4 hown hK hP hD hS 0 rfl rfl 12 (by decide) (hts2 (.fieldLink RX10 61 RX10 "bottom" "J") (mTBm 2 234 rfl rfl)) (fun _ h9 => h9) rfl (by decide +kernel) rfl rfl (Nat.le_of_ble_eq_true rfl) dI_Pb_102 (fun H locs hP' hD' hS' => ?_)
  clear hP hD hS
  have hS := hS'
  clear hS'
  have hP : va_P D vwCl ((h0, .inr (10, [.ref (u1.1 0), .ref (u2.1 0), .ref (u3.1 0), .ref (u4.1 0), .ref qm, .ref (u5.1 0), .ref (u6.1 0), .ref (u7.1 0), .ref (u8.1 0), .int 0, .int 0, .long 0, .long 1, .int 0, .int 0, .int 0])) :: (qm, .inl (cm, 3, .inr (.inr (.inr (.inr (fun _ => none)))))) :: (([] : va_W) ++ blkTr u1.1 u1.2 ++ blkTe u2.1 u2.2 ++ blkTw u3.1 u3.2 ++ blkTw u4.1 u4.2 ++ blkSh u5.1 u5.2 ++ blkNe u6.1 u6.2 ++ blkLi u7.1 u7.2 ++ blkLi u8.1 u8.2)) H := hP'
  have hD : va_D A ((h0, .inr (10, [.ref (u1.1 0), .ref (u2.1 0), .ref (u3.1 0), .ref (u4.1 0), .ref qm, .ref (u5.1 0), .ref (u6.1 0), .ref (u7.1 0), .ref (u8.1 0), .int 0, .int 0, .long 0, .long 1, .int 0, .int 0, .int 0])) :: (qm, .inl (cm, 3, .inr (.inr (.inr (.inr (fun _ => none)))))) :: (([] : va_W) ++ blkTr u1.1 u1.2 ++ blkTe u2.1 u2.2 ++ blkTw u3.1 u3.2 ++ blkTw u4.1 u4.2 ++ blkSh u5.1 u5.2 ++ blkNe u6.1 u6.2 ++ blkLi u7.1 u7.2 ++ blkLi u8.1 u8.2)) := hD'
  clear hP' hD'
  refine lv_aload_n hx hb dI_Pb_105 rfl (lv_at hl 0 rfl) ?_
  refine lv_iconst hx hb dI_Pb_106 (v := -1) rfl ?_
  refine va_put (D := D) (ci := 10) (v := .int (-1)) (ty := .int) (C := RX10) (T := TX10) (N := 16) hx hb hts2 lay1 _ lay3 lay4 hown hK hP hD hS 0 rfl rfl 13 (by decide) (hts2 (.fieldLink RX10 65 RX10 "faultKind" "I") (mTBm 2 235 rfl rfl)) (fun _ h9 => h9) rfl (by decide +kernel) rfl rfl (Nat.le_of_ble_eq_true rfl) dI_Pb_107 (fun H locs hP' hD' hS' => ?_)
  clear hP hD hS
  have hS := hS'
  clear hS'
  have hP : va_P D vwCl ((h0, .inr (10, [.ref (u1.1 0), .ref (u2.1 0), .ref (u3.1 0), .ref (u4.1 0), .ref qm, .ref (u5.1 0), .ref (u6.1 0), .ref (u7.1 0), .ref (u8.1 0), .int 0, .int 0, .long 0, .long 1, .int (-1), .int 0, .int 0])) :: (qm, .inl (cm, 3, .inr (.inr (.inr (.inr (fun _ => none)))))) :: (([] : va_W) ++ blkTr u1.1 u1.2 ++ blkTe u2.1 u2.2 ++ blkTw u3.1 u3.2 ++ blkTw u4.1 u4.2 ++ blkSh u5.1 u5.2 ++ blkNe u6.1 u6.2 ++ blkLi u7.1 u7.2 ++ blkLi u8.1 u8.2)) H := hP'
  have hD : va_D A ((h0, .inr (10, [.ref (u1.1 0), .ref (u2.1 0), .ref (u3.1 0), .ref (u4.1 0), .ref qm, .ref (u5.1 0), .ref (u6.1 0), .ref (u7.1 0), .ref (u8.1 0), .int 0, .int 0, .long 0, .long 1, .int (-1), .int 0, .int 0])) :: (qm, .inl (cm, 3, .inr (.inr (.inr (.inr (fun _ => none)))))) :: (([] : va_W) ++ blkTr u1.1 u1.2 ++ blkTe u2.1 u2.2 ++ blkTw u3.1 u3.2 ++ blkTw u4.1 u4.2 ++ blkSh u5.1 u5.2 ++ blkNe u6.1 u6.2 ++ blkLi u7.1 u7.2 ++ blkLi u8.1 u8.2)) := hD'
  clear hP' hD'
  refine lv_aload_n hx hb dI_Pb_110 rfl (lv_at hl 0 rfl) ?_
  refine lv_iconst hx hb dI_Pb_111 (v := -1) rfl ?_
  refine va_put (D := D) (ci := 10) (v := .int (-1)) (ty := .int) (C := RX10) (T := TX10) (N := 16) hx hb hts2 lay1 _ lay3 lay4 hown hK hP hD hS 0 rfl rfl 14 (by decide) (hts2 (.fieldLink RX10 69 RX10 "faultPlace" "I") (mTBm 2 236 rfl rfl)) (fun _ h9 => h9) rfl (by decide +kernel) rfl rfl (Nat.le_of_ble_eq_true rfl) dI_Pb_112 (fun H locs hP' hD' hS' => ?_)
  clear hP hD hS
  have hS := hS'
  clear hS'
  have hP : va_P D vwCl ((h0, .inr (10, [.ref (u1.1 0), .ref (u2.1 0), .ref (u3.1 0), .ref (u4.1 0), .ref qm, .ref (u5.1 0), .ref (u6.1 0), .ref (u7.1 0), .ref (u8.1 0), .int 0, .int 0, .long 0, .long 1, .int (-1), .int (-1), .int 0])) :: (qm, .inl (cm, 3, .inr (.inr (.inr (.inr (fun _ => none)))))) :: (([] : va_W) ++ blkTr u1.1 u1.2 ++ blkTe u2.1 u2.2 ++ blkTw u3.1 u3.2 ++ blkTw u4.1 u4.2 ++ blkSh u5.1 u5.2 ++ blkNe u6.1 u6.2 ++ blkLi u7.1 u7.2 ++ blkLi u8.1 u8.2)) H := hP'
  have hD : va_D A ((h0, .inr (10, [.ref (u1.1 0), .ref (u2.1 0), .ref (u3.1 0), .ref (u4.1 0), .ref qm, .ref (u5.1 0), .ref (u6.1 0), .ref (u7.1 0), .ref (u8.1 0), .int 0, .int 0, .long 0, .long 1, .int (-1), .int (-1), .int 0])) :: (qm, .inl (cm, 3, .inr (.inr (.inr (.inr (fun _ => none)))))) :: (([] : va_W) ++ blkTr u1.1 u1.2 ++ blkTe u2.1 u2.2 ++ blkTw u3.1 u3.2 ++ blkTw u4.1 u4.2 ++ blkSh u5.1 u5.2 ++ blkNe u6.1 u6.2 ++ blkLi u7.1 u7.2 ++ blkLi u8.1 u8.2)) := hD'
  clear hP' hD'
  refine lv_iconst hx hb dI_Pb_115 (v := nI 0) rfl ?_
  refine lv_istore_n hx hb dI_Pb_116 rfl hl (by decide) (lv' := [(1, .int (nI 0)), (0, .ref h0)]) rfl (fun ls hl => ?_)
  refine lv_iload_n hx hb dI_Pb_117 rfl (lv_at hl 0 rfl) ?_
  refine lv_aload_n hx hb dI_Pb_118 rfl (lv_at hl 1 rfl) ?_
  refine va_get hx hb hts2 lay1 hown hK hP 0 rfl rfl 4 (by decide) (hts2 (.fieldLink RX10 33 RX10 "marks" "[LPaperBread$Town;") (mTBm 2 226 rfl rfl)) (fun _ h9 => h9) rfl dI_Pb_119 ?_
  refine va_alen hx hb hKm hP 1 0 rfl rfl (v := nI 3) rfl dI_Pb_122 ?_
  refine lv_icmp_ge hx hb dI_Pb_123 (tgt := 145) rfl (fun h => absurd h (by decide)) (fun _ => ?_)
  refine lv_aload_n hx hb dI_Pb_126 rfl (lv_at hl 1 rfl) ?_
  refine va_get hx hb hts2 lay1 hown hK hP 0 rfl rfl 4 (by decide) (hts2 (.fieldLink RX10 33 RX10 "marks" "[LPaperBread$Town;") (mTBm 2 226 rfl rfl)) (fun _ h9 => h9) rfl dI_Pb_127 ?_
  refine lv_iload_n hx hb dI_Pb_130 rfl (lv_at hl 0 rfl) ?_
  refine va_new (D := D) (ci := 8) (fs := [.null, .null, .null, .null, .null, .null, .null, .null, .null, .null, .null, .null, .null, .int 0, .int 0, .int 0, .int 0, .int 0, .int 0]) (C := RX8) (T := TX8) (N := 19) hx hb hts2 (mLay (show vwCl[8]? = some (RX8, TX8, 19) from rfl)).1 (mTyF 8) (mLay (show vwCl[8]? = some (RX8, TX8, 19) from rfl)).2.2.1 hown (hts2 (.classLink RX10 23 RX8) (mTBm 1 158 rfl rfl)) (hts2 (.instantiable RX8 19) (mTBm 1 159 rfl rfl)) (hts2 (.initialized RX8) (mTBm 1 10 rfl rfl)) hK hP hD hS hA rfl dv_Tw (Nat.le_of_ble_eq_true rfl) (Nat.le_of_ble_eq_true rfl) dI_Pb_131 (fun q9 H hP' hD' hS' => ?_)
  clear hP hD hS
  have hS := hS'
  clear hS'
  have hP := hP'
  have hD := hD'
  clear hP' hD'
  refine lv_dup hx hb dI_Pb_134 rfl ?_
  have hPc := kl_P hP
  have hDc := kl_D hD
  have hKc := hK.sub (tys' := []) [] rfl
  have hFc := kl_F hD hS hA
  refine va_callv (va_runIN (b := q9) (As := []) (rest := .ref q9 :: [.int (nI 0), .ref qm]) ⟨hx, hb, hml, hown, hts2⟩ (cI_Tw l D q9 H.size) ⟨va_cnB (host := "PaperBread") 0 hts2 (mGoodI (M' := mI_Tw) (fun _ h => h) (mTBm 1 162 rfl rfl)) rfl rfl rfl (hN (.methodLinkNest RX10 25 (mY mI_Tw) "PaperBread") (List.mem_of_getElem? (i := 1) rfl)) (hts2 (.initialized RX8) (mTBm 1 10 rfl rfl)) ⟨by decide +kernel, by decide +kernel, by decide +kernel⟩ ⟨Nat.le_of_ble_eq_true rfl, Nat.le_of_ble_eq_true rfl⟩, rfl, (hts2 (.instanceMethod (mY mI_Tw)) (mTBm 1 161 rfl rfl))⟩ ⟨fun a U g mk q => by obtain ⟨q0, q1, qP, qK, qD, qN⟩ := q; exact ⟨q0, q1, qP, va_K.moved (u := U) (U := U.calling g mk a) (Vm.Alike.refl U.vm) qK, qD, kN.same (u := U) (U := U.calling g mk a) rfl qN⟩, fun U hU hW => ⟨rfl, by rw [hU], by rw [hU]; exact hPc, va_K.moved hW.alike hKc, hDc.weaken (fun _ _ _ _ => trivial), hN.warm hW⟩⟩ rfl rfl hl.1 rfl (lv_room (Nat.le_of_ble_eq_true rfl)) dI_Pb_135 ⟨Nat.le_of_ble_eq_true rfl, Nat.le_of_ble_eq_true rfl⟩) hS (fun q _ h => hFc q h) hFc (fun u9 t H1 locs ht hvm hw hB hz1 hk1 hS' => ?_)
  obtain ⟨hP1, hK1, hD1⟩ := hB
  rw [ht] at hP1
  have hK1 := va_K.moved hvm.symm hK1
  clear hPc hDc hKc
  subst hw
  obtain ⟨hP', hD'⟩ := kl_J hP hD hk1 hFc hP1 hD1
  clear hFc hz1 hk1 hP1 hD1
  clear hP hD hS
  have hS := hS'
  clear hS'
  have hK' := hK.app hK1
  clear hK hK1
  clear ht hvm
  generalize H1 = H at hP' hS ⊢
  have hK : va_K D vwCl (([] : List (ClassId × FieldType)) ++ tysTr u1.2 ++ tysTe u2.2 ++ tysTw u3.2 ++ tysTw u4.2 ++ [(cm, .object "PaperBread$Town")] ++ tysSh u5.2 ++ tysNe u6.2 ++ tysLi u7.2 ++ tysLi u8.2 ++ tysTw u9.2) s := hK'
  clear hK'
  have hP : va_P D vwCl ((h0, .inr (10, [.ref (u1.1 0), .ref (u2.1 0), .ref (u3.1 0), .ref (u4.1 0), .ref qm, .ref (u5.1 0), .ref (u6.1 0), .ref (u7.1 0), .ref (u8.1 0), .int 0, .int 0, .long 0, .long 1, .int (-1), .int (-1), .int 0])) :: (qm, .inl (cm, 3, .inr (.inr (.inr (.inr (fun _ => none)))))) :: (([] : va_W) ++ blkTr u1.1 u1.2 ++ blkTe u2.1 u2.2 ++ blkTw u3.1 u3.2 ++ blkTw u4.1 u4.2 ++ blkSh u5.1 u5.2 ++ blkNe u6.1 u6.2 ++ blkLi u7.1 u7.2 ++ blkLi u8.1 u8.2 ++ blkTw u9.1 u9.2)) H := hP'
  have hD : va_D A ((h0, .inr (10, [.ref (u1.1 0), .ref (u2.1 0), .ref (u3.1 0), .ref (u4.1 0), .ref qm, .ref (u5.1 0), .ref (u6.1 0), .ref (u7.1 0), .ref (u8.1 0), .int 0, .int 0, .long 0, .long 1, .int (-1), .int (-1), .int 0])) :: (qm, .inl (cm, 3, .inr (.inr (.inr (.inr (fun _ => none)))))) :: (([] : va_W) ++ blkTr u1.1 u1.2 ++ blkTe u2.1 u2.2 ++ blkTw u3.1 u3.2 ++ blkTw u4.1 u4.2 ++ blkSh u5.1 u5.2 ++ blkNe u6.1 u6.2 ++ blkLi u7.1 u7.2 ++ blkLi u8.1 u8.2 ++ blkTw u9.1 u9.2)) := hD'
  clear hP' hD'
  have hv := kl_tw ((h0, .inr (10, [.ref (u1.1 0), .ref (u2.1 0), .ref (u3.1 0), .ref (u4.1 0), .ref qm, .ref (u5.1 0), .ref (u6.1 0), .ref (u7.1 0), .ref (u8.1 0), .int 0, .int 0, .long 0, .long 1, .int (-1), .int (-1), .int 0])) :: (qm, .inl (cm, 3, .inr (.inr (.inr (.inr (fun _ => none)))))) :: (([] : va_W) ++ blkTr u1.1 u1.2 ++ blkTe u2.1 u2.2 ++ blkTw u3.1 u3.2 ++ blkTw u4.1 u4.2 ++ blkSh u5.1 u5.2 ++ blkNe u6.1 u6.2 ++ blkLi u7.1 u7.2 ++ blkLi u8.1 u8.2)) u9.1 u9.2
  refine va_astq (r := (RX8, TX8, 19)) hx hb hKm hP hD hS 1 0 _ 8 rfl rfl hv rfl (vp_in_nI (by decide) (by decide)) dI_Pb_138 (fun H locs hP' hD' hS' => ?_)
  clear hv
  clear hP hD hS
  have hS := hS'
  clear hS'
  have hP : va_P D vwCl ((h0, .inr (10, [.ref (u1.1 0), .ref (u2.1 0), .ref (u3.1 0), .ref (u4.1 0), .ref qm, .ref (u5.1 0), .ref (u6.1 0), .ref (u7.1 0), .ref (u8.1 0), .int 0, .int 0, .long 0, .long 1, .int (-1), .int (-1), .int 0])) :: (qm, .inl (cm, 3, .inr (.inr (.inr (.inr (va_up (fun _ => none) (nI 0).toNatClampNeg (some (u9.1 0)))))))) :: (([] : va_W) ++ blkTr u1.1 u1.2 ++ blkTe u2.1 u2.2 ++ blkTw u3.1 u3.2 ++ blkTw u4.1 u4.2 ++ blkSh u5.1 u5.2 ++ blkNe u6.1 u6.2 ++ blkLi u7.1 u7.2 ++ blkLi u8.1 u8.2 ++ blkTw u9.1 u9.2)) H := hP'
  have hD : va_D A ((h0, .inr (10, [.ref (u1.1 0), .ref (u2.1 0), .ref (u3.1 0), .ref (u4.1 0), .ref qm, .ref (u5.1 0), .ref (u6.1 0), .ref (u7.1 0), .ref (u8.1 0), .int 0, .int 0, .long 0, .long 1, .int (-1), .int (-1), .int 0])) :: (qm, .inl (cm, 3, .inr (.inr (.inr (.inr (va_up (fun _ => none) (nI 0).toNatClampNeg (some (u9.1 0)))))))) :: (([] : va_W) ++ blkTr u1.1 u1.2 ++ blkTe u2.1 u2.2 ++ blkTw u3.1 u3.2 ++ blkTw u4.1 u4.2 ++ blkSh u5.1 u5.2 ++ blkNe u6.1 u6.2 ++ blkLi u7.1 u7.2 ++ blkLi u8.1 u8.2 ++ blkTw u9.1 u9.2)) := hD'
  clear hP' hD'
  refine lv_iinc hx hb dI_Pb_139 hl (k := 0) rfl (v := nI 1) rfl (by decide) (lv' := [(1, .int (nI 1)), (0, .ref h0)]) rfl (fun ls hl => ?_)
  refine lv_goto hx hb dI_Pb_142 (tgt := 117) rfl ?_
  refine lv_iload_n hx hb dI_Pb_117 rfl (lv_at hl 0 rfl) ?_
  refine lv_aload_n hx hb dI_Pb_118 rfl (lv_at hl 1 rfl) ?_
  refine va_get hx hb hts2 lay1 hown hK hP 0 rfl rfl 4 (by decide) (hts2 (.fieldLink RX10 33 RX10 "marks" "[LPaperBread$Town;") (mTBm 2 226 rfl rfl)) (fun _ h9 => h9) rfl dI_Pb_119 ?_
  refine va_alen hx hb hKm hP 1 0 rfl rfl (v := nI 3) rfl dI_Pb_122 ?_
  refine lv_icmp_ge hx hb dI_Pb_123 (tgt := 145) rfl (fun h => absurd h (by decide)) (fun _ => ?_)
  refine lv_aload_n hx hb dI_Pb_126 rfl (lv_at hl 1 rfl) ?_
  refine va_get hx hb hts2 lay1 hown hK hP 0 rfl rfl 4 (by decide) (hts2 (.fieldLink RX10 33 RX10 "marks" "[LPaperBread$Town;") (mTBm 2 226 rfl rfl)) (fun _ h9 => h9) rfl dI_Pb_127 ?_
  refine lv_iload_n hx hb dI_Pb_130 rfl (lv_at hl 0 rfl) ?_
  refine va_new (D := D) (ci := 8) (fs := [.null, .null, .null, .null, .null, .null, .null, .null, .null, .null, .null, .null, .null, .int 0, .int 0, .int 0, .int 0, .int 0, .int 0]) (C := RX8) (T := TX8) (N := 19) hx hb hts2 (mLay (show vwCl[8]? = some (RX8, TX8, 19) from rfl)).1 (mTyF 8) (mLay (show vwCl[8]? = some (RX8, TX8, 19) from rfl)).2.2.1 hown (hts2 (.classLink RX10 23 RX8) (mTBm 1 158 rfl rfl)) (hts2 (.instantiable RX8 19) (mTBm 1 159 rfl rfl)) (hts2 (.initialized RX8) (mTBm 1 10 rfl rfl)) hK hP hD hS hA rfl dv_Tw (Nat.le_of_ble_eq_true rfl) (Nat.le_of_ble_eq_true rfl) dI_Pb_131 (fun q10 H hP' hD' hS' => ?_)
  clear hP hD hS
  have hS := hS'
  clear hS'
  have hP := hP'
  have hD := hD'
  clear hP' hD'
  refine lv_dup hx hb dI_Pb_134 rfl ?_
  have hPc := kl_P hP
  have hDc := kl_D hD
  have hKc := hK.sub (tys' := []) [] rfl
  have hFc := kl_F hD hS hA
  refine va_callv (va_runIN (b := q10) (As := []) (rest := .ref q10 :: [.int (nI 1), .ref qm]) ⟨hx, hb, hml, hown, hts2⟩ (cI_Tw l D q10 H.size) ⟨va_cnB (host := "PaperBread") 0 hts2 (mGoodI (M' := mI_Tw) (fun _ h => h) (mTBm 1 162 rfl rfl)) rfl rfl rfl (hN (.methodLinkNest RX10 25 (mY mI_Tw) "PaperBread") (List.mem_of_getElem? (i := 1) rfl)) (hts2 (.initialized RX8) (mTBm 1 10 rfl rfl)) ⟨by decide +kernel, by decide +kernel, by decide +kernel⟩ ⟨Nat.le_of_ble_eq_true rfl, Nat.le_of_ble_eq_true rfl⟩, rfl, (hts2 (.instanceMethod (mY mI_Tw)) (mTBm 1 161 rfl rfl))⟩ ⟨fun a U g mk q => by obtain ⟨q0, q1, qP, qK, qD, qN⟩ := q; exact ⟨q0, q1, qP, va_K.moved (u := U) (U := U.calling g mk a) (Vm.Alike.refl U.vm) qK, qD, kN.same (u := U) (U := U.calling g mk a) rfl qN⟩, fun U hU hW => ⟨rfl, by rw [hU], by rw [hU]; exact hPc, va_K.moved hW.alike hKc, hDc.weaken (fun _ _ _ _ => trivial), hN.warm hW⟩⟩ rfl rfl hl.1 rfl (lv_room (Nat.le_of_ble_eq_true rfl)) dI_Pb_135 ⟨Nat.le_of_ble_eq_true rfl, Nat.le_of_ble_eq_true rfl⟩) hS (fun q _ h => hFc q h) hFc (fun u10 t H1 locs ht hvm hw hB hz1 hk1 hS' => ?_)
  obtain ⟨hP1, hK1, hD1⟩ := hB
  rw [ht] at hP1
  have hK1 := va_K.moved hvm.symm hK1
  clear hPc hDc hKc
  subst hw
  obtain ⟨hP', hD'⟩ := kl_J hP hD hk1 hFc hP1 hD1
  clear hFc hz1 hk1 hP1 hD1
  clear hP hD hS
  have hS := hS'
  clear hS'
  have hK' := hK.app hK1
  clear hK hK1
  clear ht hvm
  generalize H1 = H at hP' hS ⊢
  have hK : va_K D vwCl (([] : List (ClassId × FieldType)) ++ tysTr u1.2 ++ tysTe u2.2 ++ tysTw u3.2 ++ tysTw u4.2 ++ [(cm, .object "PaperBread$Town")] ++ tysSh u5.2 ++ tysNe u6.2 ++ tysLi u7.2 ++ tysLi u8.2 ++ tysTw u9.2 ++ tysTw u10.2) s := hK'
  clear hK'
  have hP : va_P D vwCl ((h0, .inr (10, [.ref (u1.1 0), .ref (u2.1 0), .ref (u3.1 0), .ref (u4.1 0), .ref qm, .ref (u5.1 0), .ref (u6.1 0), .ref (u7.1 0), .ref (u8.1 0), .int 0, .int 0, .long 0, .long 1, .int (-1), .int (-1), .int 0])) :: (qm, .inl (cm, 3, .inr (.inr (.inr (.inr (va_up (fun _ => none) (nI 0).toNatClampNeg (some (u9.1 0)))))))) :: (([] : va_W) ++ blkTr u1.1 u1.2 ++ blkTe u2.1 u2.2 ++ blkTw u3.1 u3.2 ++ blkTw u4.1 u4.2 ++ blkSh u5.1 u5.2 ++ blkNe u6.1 u6.2 ++ blkLi u7.1 u7.2 ++ blkLi u8.1 u8.2 ++ blkTw u9.1 u9.2 ++ blkTw u10.1 u10.2)) H := hP'
  have hD : va_D A ((h0, .inr (10, [.ref (u1.1 0), .ref (u2.1 0), .ref (u3.1 0), .ref (u4.1 0), .ref qm, .ref (u5.1 0), .ref (u6.1 0), .ref (u7.1 0), .ref (u8.1 0), .int 0, .int 0, .long 0, .long 1, .int (-1), .int (-1), .int 0])) :: (qm, .inl (cm, 3, .inr (.inr (.inr (.inr (va_up (fun _ => none) (nI 0).toNatClampNeg (some (u9.1 0)))))))) :: (([] : va_W) ++ blkTr u1.1 u1.2 ++ blkTe u2.1 u2.2 ++ blkTw u3.1 u3.2 ++ blkTw u4.1 u4.2 ++ blkSh u5.1 u5.2 ++ blkNe u6.1 u6.2 ++ blkLi u7.1 u7.2 ++ blkLi u8.1 u8.2 ++ blkTw u9.1 u9.2 ++ blkTw u10.1 u10.2)) := hD'
  clear hP' hD'
  have hv := kl_tw ((h0, .inr (10, [.ref (u1.1 0), .ref (u2.1 0), .ref (u3.1 0), .ref (u4.1 0), .ref qm, .ref (u5.1 0), .ref (u6.1 0), .ref (u7.1 0), .ref (u8.1 0), .int 0, .int 0, .long 0, .long 1, .int (-1), .int (-1), .int 0])) :: (qm, .inl (cm, 3, .inr (.inr (.inr (.inr (va_up (fun _ => none) (nI 0).toNatClampNeg (some (u9.1 0)))))))) :: (([] : va_W) ++ blkTr u1.1 u1.2 ++ blkTe u2.1 u2.2 ++ blkTw u3.1 u3.2 ++ blkTw u4.1 u4.2 ++ blkSh u5.1 u5.2 ++ blkNe u6.1 u6.2 ++ blkLi u7.1 u7.2 ++ blkLi u8.1 u8.2 ++ blkTw u9.1 u9.2)) u10.1 u10.2
  refine va_astq (r := (RX8, TX8, 19)) hx hb hKm hP hD hS 1 0 _ 8 rfl rfl hv rfl (vp_in_nI (by decide) (by decide)) dI_Pb_138 (fun H locs hP' hD' hS' => ?_)
  clear hv
  clear hP hD hS
  have hS := hS'
  clear hS'
  have hP : va_P D vwCl ((h0, .inr (10, [.ref (u1.1 0), .ref (u2.1 0), .ref (u3.1 0), .ref (u4.1 0), .ref qm, .ref (u5.1 0), .ref (u6.1 0), .ref (u7.1 0), .ref (u8.1 0), .int 0, .int 0, .long 0, .long 1, .int (-1), .int (-1), .int 0])) :: (qm, .inl (cm, 3, .inr (.inr (.inr (.inr (va_up (va_up (fun _ => none) (nI 0).toNatClampNeg (some (u9.1 0))) (nI 1).toNatClampNeg (some (u10.1 0)))))))) :: (([] : va_W) ++ blkTr u1.1 u1.2 ++ blkTe u2.1 u2.2 ++ blkTw u3.1 u3.2 ++ blkTw u4.1 u4.2 ++ blkSh u5.1 u5.2 ++ blkNe u6.1 u6.2 ++ blkLi u7.1 u7.2 ++ blkLi u8.1 u8.2 ++ blkTw u9.1 u9.2 ++ blkTw u10.1 u10.2)) H := hP'
  have hD : va_D A ((h0, .inr (10, [.ref (u1.1 0), .ref (u2.1 0), .ref (u3.1 0), .ref (u4.1 0), .ref qm, .ref (u5.1 0), .ref (u6.1 0), .ref (u7.1 0), .ref (u8.1 0), .int 0, .int 0, .long 0, .long 1, .int (-1), .int (-1), .int 0])) :: (qm, .inl (cm, 3, .inr (.inr (.inr (.inr (va_up (va_up (fun _ => none) (nI 0).toNatClampNeg (some (u9.1 0))) (nI 1).toNatClampNeg (some (u10.1 0)))))))) :: (([] : va_W) ++ blkTr u1.1 u1.2 ++ blkTe u2.1 u2.2 ++ blkTw u3.1 u3.2 ++ blkTw u4.1 u4.2 ++ blkSh u5.1 u5.2 ++ blkNe u6.1 u6.2 ++ blkLi u7.1 u7.2 ++ blkLi u8.1 u8.2 ++ blkTw u9.1 u9.2 ++ blkTw u10.1 u10.2)) := hD'
  clear hP' hD'
  refine lv_iinc hx hb dI_Pb_139 hl (k := 0) rfl (v := nI 2) rfl (by decide) (lv' := [(1, .int (nI 2)), (0, .ref h0)]) rfl (fun ls hl => ?_)
  refine lv_goto hx hb dI_Pb_142 (tgt := 117) rfl ?_
  refine lv_iload_n hx hb dI_Pb_117 rfl (lv_at hl 0 rfl) ?_
  refine lv_aload_n hx hb dI_Pb_118 rfl (lv_at hl 1 rfl) ?_
  refine va_get hx hb hts2 lay1 hown hK hP 0 rfl rfl 4 (by decide) (hts2 (.fieldLink RX10 33 RX10 "marks" "[LPaperBread$Town;") (mTBm 2 226 rfl rfl)) (fun _ h9 => h9) rfl dI_Pb_119 ?_
  refine va_alen hx hb hKm hP 1 0 rfl rfl (v := nI 3) rfl dI_Pb_122 ?_
  refine lv_icmp_ge hx hb dI_Pb_123 (tgt := 145) rfl (fun h => absurd h (by decide)) (fun _ => ?_)
  refine lv_aload_n hx hb dI_Pb_126 rfl (lv_at hl 1 rfl) ?_
  refine va_get hx hb hts2 lay1 hown hK hP 0 rfl rfl 4 (by decide) (hts2 (.fieldLink RX10 33 RX10 "marks" "[LPaperBread$Town;") (mTBm 2 226 rfl rfl)) (fun _ h9 => h9) rfl dI_Pb_127 ?_
  refine lv_iload_n hx hb dI_Pb_130 rfl (lv_at hl 0 rfl) ?_
  refine va_new (D := D) (ci := 8) (fs := [.null, .null, .null, .null, .null, .null, .null, .null, .null, .null, .null, .null, .null, .int 0, .int 0, .int 0, .int 0, .int 0, .int 0]) (C := RX8) (T := TX8) (N := 19) hx hb hts2 (mLay (show vwCl[8]? = some (RX8, TX8, 19) from rfl)).1 (mTyF 8) (mLay (show vwCl[8]? = some (RX8, TX8, 19) from rfl)).2.2.1 hown (hts2 (.classLink RX10 23 RX8) (mTBm 1 158 rfl rfl)) (hts2 (.instantiable RX8 19) (mTBm 1 159 rfl rfl)) (hts2 (.initialized RX8) (mTBm 1 10 rfl rfl)) hK hP hD hS hA rfl dv_Tw (Nat.le_of_ble_eq_true rfl) (Nat.le_of_ble_eq_true rfl) dI_Pb_131 (fun q11 H hP' hD' hS' => ?_)
  clear hP hD hS
  have hS := hS'
  clear hS'
  have hP := hP'
  have hD := hD'
  clear hP' hD'
  refine lv_dup hx hb dI_Pb_134 rfl ?_
  have hPc := kl_P hP
  have hDc := kl_D hD
  have hKc := hK.sub (tys' := []) [] rfl
  have hFc := kl_F hD hS hA
  refine va_callv (va_runIN (b := q11) (As := []) (rest := .ref q11 :: [.int (nI 2), .ref qm]) ⟨hx, hb, hml, hown, hts2⟩ (cI_Tw l D q11 H.size) ⟨va_cnB (host := "PaperBread") 0 hts2 (mGoodI (M' := mI_Tw) (fun _ h => h) (mTBm 1 162 rfl rfl)) rfl rfl rfl (hN (.methodLinkNest RX10 25 (mY mI_Tw) "PaperBread") (List.mem_of_getElem? (i := 1) rfl)) (hts2 (.initialized RX8) (mTBm 1 10 rfl rfl)) ⟨by decide +kernel, by decide +kernel, by decide +kernel⟩ ⟨Nat.le_of_ble_eq_true rfl, Nat.le_of_ble_eq_true rfl⟩, rfl, (hts2 (.instanceMethod (mY mI_Tw)) (mTBm 1 161 rfl rfl))⟩ ⟨fun a U g mk q => by obtain ⟨q0, q1, qP, qK, qD, qN⟩ := q; exact ⟨q0, q1, qP, va_K.moved (u := U) (U := U.calling g mk a) (Vm.Alike.refl U.vm) qK, qD, kN.same (u := U) (U := U.calling g mk a) rfl qN⟩, fun U hU hW => ⟨rfl, by rw [hU], by rw [hU]; exact hPc, va_K.moved hW.alike hKc, hDc.weaken (fun _ _ _ _ => trivial), hN.warm hW⟩⟩ rfl rfl hl.1 rfl (lv_room (Nat.le_of_ble_eq_true rfl)) dI_Pb_135 ⟨Nat.le_of_ble_eq_true rfl, Nat.le_of_ble_eq_true rfl⟩) hS (fun q _ h => hFc q h) hFc (fun u11 t H1 locs ht hvm hw hB hz1 hk1 hS' => ?_)
  obtain ⟨hP1, hK1, hD1⟩ := hB
  rw [ht] at hP1
  have hK1 := va_K.moved hvm.symm hK1
  clear hPc hDc hKc
  subst hw
  obtain ⟨hP', hD'⟩ := kl_J hP hD hk1 hFc hP1 hD1
  clear hFc hz1 hk1 hP1 hD1
  clear hP hD hS
  have hS := hS'
  clear hS'
  have hK' := hK.app hK1
  clear hK hK1
  clear ht hvm
  generalize H1 = H at hP' hS ⊢
  have hK : va_K D vwCl (([] : List (ClassId × FieldType)) ++ tysTr u1.2 ++ tysTe u2.2 ++ tysTw u3.2 ++ tysTw u4.2 ++ [(cm, .object "PaperBread$Town")] ++ tysSh u5.2 ++ tysNe u6.2 ++ tysLi u7.2 ++ tysLi u8.2 ++ tysTw u9.2 ++ tysTw u10.2 ++ tysTw u11.2) s := hK'
  clear hK'
  have hP : va_P D vwCl ((h0, .inr (10, [.ref (u1.1 0), .ref (u2.1 0), .ref (u3.1 0), .ref (u4.1 0), .ref qm, .ref (u5.1 0), .ref (u6.1 0), .ref (u7.1 0), .ref (u8.1 0), .int 0, .int 0, .long 0, .long 1, .int (-1), .int (-1), .int 0])) :: (qm, .inl (cm, 3, .inr (.inr (.inr (.inr (va_up (va_up (fun _ => none) (nI 0).toNatClampNeg (some (u9.1 0))) (nI 1).toNatClampNeg (some (u10.1 0)))))))) :: (([] : va_W) ++ blkTr u1.1 u1.2 ++ blkTe u2.1 u2.2 ++ blkTw u3.1 u3.2 ++ blkTw u4.1 u4.2 ++ blkSh u5.1 u5.2 ++ blkNe u6.1 u6.2 ++ blkLi u7.1 u7.2 ++ blkLi u8.1 u8.2 ++ blkTw u9.1 u9.2 ++ blkTw u10.1 u10.2 ++ blkTw u11.1 u11.2)) H := hP'
  have hD : va_D A ((h0, .inr (10, [.ref (u1.1 0), .ref (u2.1 0), .ref (u3.1 0), .ref (u4.1 0), .ref qm, .ref (u5.1 0), .ref (u6.1 0), .ref (u7.1 0), .ref (u8.1 0), .int 0, .int 0, .long 0, .long 1, .int (-1), .int (-1), .int 0])) :: (qm, .inl (cm, 3, .inr (.inr (.inr (.inr (va_up (va_up (fun _ => none) (nI 0).toNatClampNeg (some (u9.1 0))) (nI 1).toNatClampNeg (some (u10.1 0)))))))) :: (([] : va_W) ++ blkTr u1.1 u1.2 ++ blkTe u2.1 u2.2 ++ blkTw u3.1 u3.2 ++ blkTw u4.1 u4.2 ++ blkSh u5.1 u5.2 ++ blkNe u6.1 u6.2 ++ blkLi u7.1 u7.2 ++ blkLi u8.1 u8.2 ++ blkTw u9.1 u9.2 ++ blkTw u10.1 u10.2 ++ blkTw u11.1 u11.2)) := hD'
  clear hP' hD'
  have hv := kl_tw ((h0, .inr (10, [.ref (u1.1 0), .ref (u2.1 0), .ref (u3.1 0), .ref (u4.1 0), .ref qm, .ref (u5.1 0), .ref (u6.1 0), .ref (u7.1 0), .ref (u8.1 0), .int 0, .int 0, .long 0, .long 1, .int (-1), .int (-1), .int 0])) :: (qm, .inl (cm, 3, .inr (.inr (.inr (.inr (va_up (va_up (fun _ => none) (nI 0).toNatClampNeg (some (u9.1 0))) (nI 1).toNatClampNeg (some (u10.1 0)))))))) :: (([] : va_W) ++ blkTr u1.1 u1.2 ++ blkTe u2.1 u2.2 ++ blkTw u3.1 u3.2 ++ blkTw u4.1 u4.2 ++ blkSh u5.1 u5.2 ++ blkNe u6.1 u6.2 ++ blkLi u7.1 u7.2 ++ blkLi u8.1 u8.2 ++ blkTw u9.1 u9.2 ++ blkTw u10.1 u10.2)) u11.1 u11.2
  refine va_astq (r := (RX8, TX8, 19)) hx hb hKm hP hD hS 1 0 _ 8 rfl rfl hv rfl (vp_in_nI (by decide) (by decide)) dI_Pb_138 (fun H locs hP' hD' hS' => ?_)
  clear hv
  clear hP hD hS
  have hS := hS'
  clear hS'
  have hP : va_P D vwCl ((h0, .inr (10, [.ref (u1.1 0), .ref (u2.1 0), .ref (u3.1 0), .ref (u4.1 0), .ref qm, .ref (u5.1 0), .ref (u6.1 0), .ref (u7.1 0), .ref (u8.1 0), .int 0, .int 0, .long 0, .long 1, .int (-1), .int (-1), .int 0])) :: (qm, .inl (cm, 3, .inr (.inr (.inr (.inr (va_up (va_up (va_up (fun _ => none) (nI 0).toNatClampNeg (some (u9.1 0))) (nI 1).toNatClampNeg (some (u10.1 0))) (nI 2).toNatClampNeg (some (u11.1 0)))))))) :: (([] : va_W) ++ blkTr u1.1 u1.2 ++ blkTe u2.1 u2.2 ++ blkTw u3.1 u3.2 ++ blkTw u4.1 u4.2 ++ blkSh u5.1 u5.2 ++ blkNe u6.1 u6.2 ++ blkLi u7.1 u7.2 ++ blkLi u8.1 u8.2 ++ blkTw u9.1 u9.2 ++ blkTw u10.1 u10.2 ++ blkTw u11.1 u11.2)) H := hP'
  have hD : va_D A ((h0, .inr (10, [.ref (u1.1 0), .ref (u2.1 0), .ref (u3.1 0), .ref (u4.1 0), .ref qm, .ref (u5.1 0), .ref (u6.1 0), .ref (u7.1 0), .ref (u8.1 0), .int 0, .int 0, .long 0, .long 1, .int (-1), .int (-1), .int 0])) :: (qm, .inl (cm, 3, .inr (.inr (.inr (.inr (va_up (va_up (va_up (fun _ => none) (nI 0).toNatClampNeg (some (u9.1 0))) (nI 1).toNatClampNeg (some (u10.1 0))) (nI 2).toNatClampNeg (some (u11.1 0)))))))) :: (([] : va_W) ++ blkTr u1.1 u1.2 ++ blkTe u2.1 u2.2 ++ blkTw u3.1 u3.2 ++ blkTw u4.1 u4.2 ++ blkSh u5.1 u5.2 ++ blkNe u6.1 u6.2 ++ blkLi u7.1 u7.2 ++ blkLi u8.1 u8.2 ++ blkTw u9.1 u9.2 ++ blkTw u10.1 u10.2 ++ blkTw u11.1 u11.2)) := hD'
  clear hP' hD'
  refine lv_iinc hx hb dI_Pb_139 hl (k := 0) rfl (v := nI 3) rfl (by decide) (lv' := [(1, .int (nI 3)), (0, .ref h0)]) rfl (fun ls hl => ?_)
  refine lv_goto hx hb dI_Pb_142 (tgt := 117) rfl ?_
  refine lv_iload_n hx hb dI_Pb_117 rfl (lv_at hl 0 rfl) ?_
  refine lv_aload_n hx hb dI_Pb_118 rfl (lv_at hl 1 rfl) ?_
  refine va_get hx hb hts2 lay1 hown hK hP 0 rfl rfl 4 (by decide) (hts2 (.fieldLink RX10 33 RX10 "marks" "[LPaperBread$Town;") (mTBm 2 226 rfl rfl)) (fun _ h9 => h9) rfl dI_Pb_119 ?_
  refine va_alen hx hb hKm hP 1 0 rfl rfl (v := nI 3) rfl dI_Pb_122 ?_
  refine lv_icmp_ge hx hb dI_Pb_123 (tgt := 145) rfl (fun _ => ?_) (fun h => absurd (Int32.le_refl _) h)
  have ef : (va_up (va_up (va_up (fun _ => none) (nI 0).toNatClampNeg (some (u9.1 0))) (nI 1).toNatClampNeg (some (u10.1 0))) (nI 2).toNatClampNeg (some (u11.1 0))) = (fun j => (([91, 116, 141] : List Nat)[j]?).map (jnN 1 (fun _ => h0) (jnN 4 u1.1 (jnN 5 u2.1 (jnN 25 u3.1 (jnN 25 u4.1 (jnN 1 (fun _ => qm) (jnN 7 u5.1 (jnN 5 u6.1 (jnN 9 u7.1 (jnN 9 u8.1 (jnN 25 u9.1 (jnN 25 u10.1 (jnN 25 u11.1 (fun _ => 0))))))))))))))) := by
    funext j
    match j with
    | 0 => rfl
    | 1 => rfl
    | 2 => rfl
    | j + 3 => rfl
  have p0 := (List.perm_append_singleton ((qm, .inl (cm, 3, .inr (.inr (.inr (.inr (va_up (va_up (va_up (fun _ => none) (nI 0).toNatClampNeg (some (u9.1 0))) (nI 1).toNatClampNeg (some (u10.1 0))) (nI 2).toNatClampNeg (some (u11.1 0))))))))) ((([] : va_W) ++ blkTr u1.1 u1.2 ++ blkTe u2.1 u2.2 ++ blkTw u3.1 u3.2 ++ blkTw u4.1 u4.2))).symm
  have p0 : ((qm, .inl (cm, 3, .inr (.inr (.inr (.inr (va_up (va_up (va_up (fun _ => none) (nI 0).toNatClampNeg (some (u9.1 0))) (nI 1).toNatClampNeg (some (u10.1 0))) (nI 2).toNatClampNeg (some (u11.1 0)))))))) :: ((([] : va_W) ++ blkTr u1.1 u1.2 ++ blkTe u2.1 u2.2 ++ blkTw u3.1 u3.2 ++ blkTw u4.1 u4.2) ++ blkSh u5.1 u5.2)).Perm ((([] : va_W) ++ blkTr u1.1 u1.2 ++ blkTe u2.1 u2.2 ++ blkTw u3.1 u3.2 ++ blkTw u4.1 u4.2) ++ [(qm, .inl (cm, 3, .inr (.inr (.inr (.inr (va_up (va_up (va_up (fun _ => none) (nI 0).toNatClampNeg (some (u9.1 0))) (nI 1).toNatClampNeg (some (u10.1 0))) (nI 2).toNatClampNeg (some (u11.1 0))))))))] ++ blkSh u5.1 u5.2) := p0.append_right (blkSh u5.1 u5.2)
  have p0 : ((qm, .inl (cm, 3, .inr (.inr (.inr (.inr (va_up (va_up (va_up (fun _ => none) (nI 0).toNatClampNeg (some (u9.1 0))) (nI 1).toNatClampNeg (some (u10.1 0))) (nI 2).toNatClampNeg (some (u11.1 0)))))))) :: ((([] : va_W) ++ blkTr u1.1 u1.2 ++ blkTe u2.1 u2.2 ++ blkTw u3.1 u3.2 ++ blkTw u4.1 u4.2) ++ blkSh u5.1 u5.2 ++ blkNe u6.1 u6.2)).Perm ((([] : va_W) ++ blkTr u1.1 u1.2 ++ blkTe u2.1 u2.2 ++ blkTw u3.1 u3.2 ++ blkTw u4.1 u4.2) ++ [(qm, .inl (cm, 3, .inr (.inr (.inr (.inr (va_up (va_up (va_up (fun _ => none) (nI 0).toNatClampNeg (some (u9.1 0))) (nI 1).toNatClampNeg (some (u10.1 0))) (nI 2).toNatClampNeg (some (u11.1 0))))))))] ++ blkSh u5.1 u5.2 ++ blkNe u6.1 u6.2) := p0.append_right (blkNe u6.1 u6.2)
  have p0 : ((qm, .inl (cm, 3, .inr (.inr (.inr (.inr (va_up (va_up (va_up (fun _ => none) (nI 0).toNatClampNeg (some (u9.1 0))) (nI 1).toNatClampNeg (some (u10.1 0))) (nI 2).toNatClampNeg (some (u11.1 0)))))))) :: ((([] : va_W) ++ blkTr u1.1 u1.2 ++ blkTe u2.1 u2.2 ++ blkTw u3.1 u3.2 ++ blkTw u4.1 u4.2) ++ blkSh u5.1 u5.2 ++ blkNe u6.1 u6.2 ++ blkLi u7.1 u7.2)).Perm ((([] : va_W) ++ blkTr u1.1 u1.2 ++ blkTe u2.1 u2.2 ++ blkTw u3.1 u3.2 ++ blkTw u4.1 u4.2) ++ [(qm, .inl (cm, 3, .inr (.inr (.inr (.inr (va_up (va_up (va_up (fun _ => none) (nI 0).toNatClampNeg (some (u9.1 0))) (nI 1).toNatClampNeg (some (u10.1 0))) (nI 2).toNatClampNeg (some (u11.1 0))))))))] ++ blkSh u5.1 u5.2 ++ blkNe u6.1 u6.2 ++ blkLi u7.1 u7.2) := p0.append_right (blkLi u7.1 u7.2)
  have p0 : ((qm, .inl (cm, 3, .inr (.inr (.inr (.inr (va_up (va_up (va_up (fun _ => none) (nI 0).toNatClampNeg (some (u9.1 0))) (nI 1).toNatClampNeg (some (u10.1 0))) (nI 2).toNatClampNeg (some (u11.1 0)))))))) :: ((([] : va_W) ++ blkTr u1.1 u1.2 ++ blkTe u2.1 u2.2 ++ blkTw u3.1 u3.2 ++ blkTw u4.1 u4.2) ++ blkSh u5.1 u5.2 ++ blkNe u6.1 u6.2 ++ blkLi u7.1 u7.2 ++ blkLi u8.1 u8.2)).Perm ((([] : va_W) ++ blkTr u1.1 u1.2 ++ blkTe u2.1 u2.2 ++ blkTw u3.1 u3.2 ++ blkTw u4.1 u4.2) ++ [(qm, .inl (cm, 3, .inr (.inr (.inr (.inr (va_up (va_up (va_up (fun _ => none) (nI 0).toNatClampNeg (some (u9.1 0))) (nI 1).toNatClampNeg (some (u10.1 0))) (nI 2).toNatClampNeg (some (u11.1 0))))))))] ++ blkSh u5.1 u5.2 ++ blkNe u6.1 u6.2 ++ blkLi u7.1 u7.2 ++ blkLi u8.1 u8.2) := p0.append_right (blkLi u8.1 u8.2)
  have p0 : ((qm, .inl (cm, 3, .inr (.inr (.inr (.inr (va_up (va_up (va_up (fun _ => none) (nI 0).toNatClampNeg (some (u9.1 0))) (nI 1).toNatClampNeg (some (u10.1 0))) (nI 2).toNatClampNeg (some (u11.1 0)))))))) :: ((([] : va_W) ++ blkTr u1.1 u1.2 ++ blkTe u2.1 u2.2 ++ blkTw u3.1 u3.2 ++ blkTw u4.1 u4.2) ++ blkSh u5.1 u5.2 ++ blkNe u6.1 u6.2 ++ blkLi u7.1 u7.2 ++ blkLi u8.1 u8.2 ++ blkTw u9.1 u9.2)).Perm ((([] : va_W) ++ blkTr u1.1 u1.2 ++ blkTe u2.1 u2.2 ++ blkTw u3.1 u3.2 ++ blkTw u4.1 u4.2) ++ [(qm, .inl (cm, 3, .inr (.inr (.inr (.inr (va_up (va_up (va_up (fun _ => none) (nI 0).toNatClampNeg (some (u9.1 0))) (nI 1).toNatClampNeg (some (u10.1 0))) (nI 2).toNatClampNeg (some (u11.1 0))))))))] ++ blkSh u5.1 u5.2 ++ blkNe u6.1 u6.2 ++ blkLi u7.1 u7.2 ++ blkLi u8.1 u8.2 ++ blkTw u9.1 u9.2) := p0.append_right (blkTw u9.1 u9.2)
  have p0 : ((qm, .inl (cm, 3, .inr (.inr (.inr (.inr (va_up (va_up (va_up (fun _ => none) (nI 0).toNatClampNeg (some (u9.1 0))) (nI 1).toNatClampNeg (some (u10.1 0))) (nI 2).toNatClampNeg (some (u11.1 0)))))))) :: ((([] : va_W) ++ blkTr u1.1 u1.2 ++ blkTe u2.1 u2.2 ++ blkTw u3.1 u3.2 ++ blkTw u4.1 u4.2) ++ blkSh u5.1 u5.2 ++ blkNe u6.1 u6.2 ++ blkLi u7.1 u7.2 ++ blkLi u8.1 u8.2 ++ blkTw u9.1 u9.2 ++ blkTw u10.1 u10.2)).Perm ((([] : va_W) ++ blkTr u1.1 u1.2 ++ blkTe u2.1 u2.2 ++ blkTw u3.1 u3.2 ++ blkTw u4.1 u4.2) ++ [(qm, .inl (cm, 3, .inr (.inr (.inr (.inr (va_up (va_up (va_up (fun _ => none) (nI 0).toNatClampNeg (some (u9.1 0))) (nI 1).toNatClampNeg (some (u10.1 0))) (nI 2).toNatClampNeg (some (u11.1 0))))))))] ++ blkSh u5.1 u5.2 ++ blkNe u6.1 u6.2 ++ blkLi u7.1 u7.2 ++ blkLi u8.1 u8.2 ++ blkTw u9.1 u9.2 ++ blkTw u10.1 u10.2) := p0.append_right (blkTw u10.1 u10.2)
  have p0 : ((qm, .inl (cm, 3, .inr (.inr (.inr (.inr (va_up (va_up (va_up (fun _ => none) (nI 0).toNatClampNeg (some (u9.1 0))) (nI 1).toNatClampNeg (some (u10.1 0))) (nI 2).toNatClampNeg (some (u11.1 0)))))))) :: ((([] : va_W) ++ blkTr u1.1 u1.2 ++ blkTe u2.1 u2.2 ++ blkTw u3.1 u3.2 ++ blkTw u4.1 u4.2) ++ blkSh u5.1 u5.2 ++ blkNe u6.1 u6.2 ++ blkLi u7.1 u7.2 ++ blkLi u8.1 u8.2 ++ blkTw u9.1 u9.2 ++ blkTw u10.1 u10.2 ++ blkTw u11.1 u11.2)).Perm ((([] : va_W) ++ blkTr u1.1 u1.2 ++ blkTe u2.1 u2.2 ++ blkTw u3.1 u3.2 ++ blkTw u4.1 u4.2) ++ [(qm, .inl (cm, 3, .inr (.inr (.inr (.inr (va_up (va_up (va_up (fun _ => none) (nI 0).toNatClampNeg (some (u9.1 0))) (nI 1).toNatClampNeg (some (u10.1 0))) (nI 2).toNatClampNeg (some (u11.1 0))))))))] ++ blkSh u5.1 u5.2 ++ blkNe u6.1 u6.2 ++ blkLi u7.1 u7.2 ++ blkLi u8.1 u8.2 ++ blkTw u9.1 u9.2 ++ blkTw u10.1 u10.2 ++ blkTw u11.1 u11.2) := p0.append_right (blkTw u11.1 u11.2)
  have hP' := kl_Pp (List.Perm.cons _ p0) hP
  have hD' := kl_Dp (List.Perm.cons _ p0) hD
  clear hP hD p0
  rw [ef] at hP' hD'
  refine W.widen (k := 165) (n := 6302) (by decide) (by decide) ?_
  exact W.vret hx hb hr (fun t ht hW => ⟨⟨((jnN 1 (fun _ => h0) (jnN 4 u1.1 (jnN 5 u2.1 (jnN 25 u3.1 (jnN 25 u4.1 (jnN 1 (fun _ => qm) (jnN 7 u5.1 (jnN 5 u6.1 (jnN 9 u7.1 (jnN 9 u8.1 (jnN 25 u9.1 (jnN 25 u10.1 (jnN 25 u11.1 (fun _ => 0)))))))))))))), (jnN 1 (fun _ => 0) (jnN 4 u1.2 (jnN 5 u2.2 (jnN 25 u3.2 (jnN 25 u4.2 (jnN 1 (fun _ => cm) (jnN 7 u5.2 (jnN 5 u6.2 (jnN 9 u7.2 (jnN 9 u8.2 (jnN 25 u9.2 (jnN 25 u10.2 (jnN 25 u11.2 (fun _ => 0))))))))))))))), rfl, rfl, by rw [ht]; exact hP', va_K.moved hW.alike hK, hD'⟩, hS.F ht⟩) hS.2.2 dI_Pb_145
