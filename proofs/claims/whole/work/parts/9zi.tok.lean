/-! the constructor of the tokens: the keywords out of their text -/
def kWd : Nat → Nat
  | 0 => 0
  | i + 1 => if kBy.getD i 0 = 32 then kWd i + 1 else kWd i
def kF : Nat → Nat → Int64
  | 0 => fun _ => 0
  | i + 1 => if kBy.getD i 0 = 32 then kF i else vp_updL (kF i) (kWd i) (kF i (kWd i) * 32 + (kBy.getD i 0 - 97 + 1).toInt64)
theorem kWd_all : ∀ i : Fin 134, kWd i.val < 28 := by decide +kernel
theorem kF_all : ∀ k : Fin 28, kF 133 k.val = kwV.getD k.val 0 := by decide +kernel
def kTx : String := "person purse oven rain loaf by in on slices flour promise of from to for bake wait eat pay break when day has baked wet loop end stop"
theorem dI_To_25 : decode cX7_init 25 = .ok (.iload_n 2, 1) := by decide +kernel
theorem dI_To_26 : decode cX7_init 26 = .ok (.ldc 19, 2) := by decide +kernel
theorem dI_To_28 : decode cX7_init 28 = .ok (.invokevirtual 21, 3) := by decide +kernel
theorem dI_To_31 : decode cX7_init 31 = .ok (.if_icmp .ge 61, 3) := by decide +kernel
theorem dI_To_34 : decode cX7_init 34 = .ok (.iload_n 1, 1) := by decide +kernel
theorem dI_To_35 : decode cX7_init 35 = .ok (.aload_n 0, 1) := by decide +kernel
theorem dI_To_36 : decode cX7_init 36 = .ok (.getfield 15, 3) := by decide +kernel
theorem dI_To_39 : decode cX7_init 39 = .ok (.arraylength, 1) := by decide +kernel
theorem dI_To_40 : decode cX7_init 40 = .ok (.if_icmp .ge 52, 3) := by decide +kernel
theorem dI_To_43 : decode cX7_init 43 = .ok (.ldc 19, 2) := by decide +kernel
theorem dI_To_45 : decode cX7_init 45 = .ok (.iload_n 2, 1) := by decide +kernel
theorem dI_To_46 : decode cX7_init 46 = .ok (.invokevirtual 27, 3) := by decide +kernel
theorem dI_To_49 : decode cX7_init 49 = .ok (.istore_n 3, 1) := by decide +kernel
theorem dI_To_50 : decode cX7_init 50 = .ok (.iload_n 3, 1) := by decide +kernel
theorem dI_To_51 : decode cX7_init 51 = .ok (.bipush 32, 2) := by decide +kernel
theorem dI_To_53 : decode cX7_init 53 = .ok (.if_icmp .ne 9, 3) := by decide +kernel
theorem dI_To_56 : decode cX7_init 56 = .ok (.iinc 1 1, 3) := by decide +kernel
theorem dI_To_59 : decode cX7_init 59 = .ok (.goto 27, 3) := by decide +kernel
theorem dI_To_62 : decode cX7_init 62 = .ok (.aload_n 0, 1) := by decide +kernel
theorem dI_To_63 : decode cX7_init 63 = .ok (.getfield 15, 3) := by decide +kernel
theorem dI_To_66 : decode cX7_init 66 = .ok (.iload_n 1, 1) := by decide +kernel
theorem dI_To_67 : decode cX7_init 67 = .ok (.aload_n 0, 1) := by decide +kernel
theorem dI_To_68 : decode cX7_init 68 = .ok (.getfield 15, 3) := by decide +kernel
theorem dI_To_71 : decode cX7_init 71 = .ok (.iload_n 1, 1) := by decide +kernel
theorem dI_To_72 : decode cX7_init 72 = .ok (.laload, 1) := by decide +kernel
theorem dI_To_73 : decode cX7_init 73 = .ok (.ldc2_w 31, 3) := by decide +kernel
theorem dI_To_76 : decode cX7_init 76 = .ok (.lmul, 1) := by decide +kernel
theorem dI_To_77 : decode cX7_init 77 = .ok (.iload_n 3, 1) := by decide +kernel
theorem dI_To_78 : decode cX7_init 78 = .ok (.bipush 97, 2) := by decide +kernel
theorem dI_To_80 : decode cX7_init 80 = .ok (.isub, 1) := by decide +kernel
theorem dI_To_81 : decode cX7_init 81 = .ok (.iconst 1, 1) := by decide +kernel
theorem dI_To_82 : decode cX7_init 82 = .ok (.iadd, 1) := by decide +kernel
theorem dI_To_83 : decode cX7_init 83 = .ok (.i2l, 1) := by decide +kernel
theorem dI_To_84 : decode cX7_init 84 = .ok (.ladd, 1) := by decide +kernel
theorem dI_To_85 : decode cX7_init 85 = .ok (.lastore, 1) := by decide +kernel
theorem dI_To_86 : decode cX7_init 86 = .ok (.iinc 2 1, 3) := by decide +kernel
theorem dI_To_89 : decode cX7_init 89 = .ok (.goto (-64), 3) := by decide +kernel
set_option maxHeartbeats 4000000 in
set_option maxRecDepth 100000 in
theorem tok_loop {p : Program} {l : Launch} {e : Env} {R : Room} {s : State} {m : MethodId} {args : Array Value} {below : List Frame} {meth : Method} {c : Code} {cells slots : Nat} {Q : State → Prop} {D : va_G} {A : Nat → Prop} {h0 q1 q2 aS aV : Nat} {c1 c2 : ClassId} {x : Value} (hx : p.tables.exec = Jvm.exec) (hb : c.code = cX7_init) (hml : c.maxLocals = 4) (hown : s.vm.findClass RX7 = some m.cls) (hts2 : ∀ w ∈ mTB, w.before args s = true) (hK : va_K D vwCl [(c1, .byte), (c2, .long)] s) (hJ : kJ aS aV x A s s.heap) (hR : vk_R RX7 19 kTx aS s) (hx1 : x.category = 1) (hfr : 5 ≤ R.frames) (hlo : 320 ≤ R.locals) (hce : cells ≤ R.cells) (hsl : slots ≤ R.slots)
    (fin : ∀ (H : Heap) (locs : List Loc) (ls : Array Slot), va_P D vwCl [(h0, .inr (7, [.ref q1, .ref q2, .int 0, .int 0, .int 0, .int 0, .int 0, .int 0, .long 0, .int 0, .int 0])), (q1, .inl (c1, (900, .inl (fun _ => 0)))), (q2, .inl (c2, (28, .inr (.inl (kF 133)))))] H → va_D A [(h0, .inr (7, [.ref q1, .ref q2, .int 0, .int 0, .int 0, .int 0, .int 0, .int 0, .long 0, .int 0, .int 0])), (q1, .inl (c1, (900, .inl (fun _ => 0)))), (q2, .inl (c2, (28, .inr (.inl (kF 133)))))] → va_S A s.heap H locs → W p l e R s m args below meth c H locs cells slots Q (F0 m 92 ls [])) :
    ∀ (j i : Nat) (H : Heap) (locs : List Loc) (ls : Array Slot), i + j = 133 → lv_has ls 4 [(2, .int (nI i)), (1, .int (nI (kWd i))), (0, .ref h0)] → va_P D vwCl [(h0, .inr (7, [.ref q1, .ref q2, .int 0, .int 0, .int 0, .int 0, .int 0, .int 0, .long 0, .int 0, .int 0])), (q1, .inl (c1, (900, .inl (fun _ => 0)))), (q2, .inl (c2, (28, .inr (.inl (kF i)))))] H → va_D A [(h0, .inr (7, [.ref q1, .ref q2, .int 0, .int 0, .int 0, .int 0, .int 0, .int 0, .long 0, .int 0, .int 0])), (q1, .inl (c1, (900, .inl (fun _ => 0)))), (q2, .inl (c2, (28, .inr (.inl (kF i)))))] → va_S A s.heap H locs → W p l e R s m args below meth c H locs cells slots Q (F0 m 25 ls []) := by
  obtain ⟨lay1, lay2, lay3, lay4⟩ := id (mLay (show vwCl[7]? = some (RX7, TX7, 11) from rfl))
  intro j
  induction j with
  | zero =>
    intro i H locs ls hij hl hP hD hS
    have ei : i = 133 := by omega
    subst ei
    refine lv_iload_n hx hb dI_To_25 rfl (lv_at hl 0 rfl) ?_
    refine va_ldcS hx hb hown hR dI_To_26 ?_
    refine va_calli (va_runV (b := aS) (As := []) (rest := [.int (nI 133)]) ⟨hx, hb, hml, hown, hts2⟩ (cJ_length l aS aV x) ⟨callB_of 0 hts2 (mGoodI (M' := mJ_length) (fun _ h => h) (mTBm 1 65 rfl rfl)) rfl rfl rfl (hts2 (.initialized "java/lang/String") (mTBm 1 6 rfl rfl)) (hts2 (.methodLink RX7 21 (mY mJ_length)) (mTBm 1 62 rfl rfl)) ⟨by decide +kernel, by decide +kernel, by decide +kernel⟩ ⟨by show 2 + 1 ≤ R.frames; omega, by show 8 + (1 + 11) + 128 ≤ R.locals; omega⟩, (hts2 (.instanceMethod (mY mJ_length)) (mTBm 1 63 rfl rfl)), (hts2 (.selects "java/lang/String" (mY mJ_length) (mY mJ_length)) (mTBm 1 64 rfl rfl))⟩ ⟨fun a U g mk q => by obtain ⟨q0, q1⟩ := q; exact ⟨q0, kJ.moved (u := U) (U := U.calling g mk a) (Vm.Alike.refl U.vm) q1⟩, vk_recv hJ.2.2 (i := 0) (by decide) hS, fun U hU hW => ⟨rfl, by show kJ aS aV x noA U U.heap; rw [hU]; exact ((hJ.kept hS.2.1).narrow (fun _ h => h.elim)).moved hW.alike⟩⟩ rfl rfl hl.1 rfl (lv_room (Nat.le_of_ble_eq_true rfl)) dI_To_28 ⟨by omega, by omega⟩) hS (fun _ _ h => h.elim) (fun _ h => h.elim) (fun r u t H1 locs ht hvm hw hB hz1 hk1 hS => ?_)
    subst hw
    have hP := hP.kept (fun k x hx => hk1 x.1 ((hP k x hx).lt) (fun h => h))
    refine lv_icmp_ge hx hb dI_To_31 (tgt := 92) rfl (fun _ => ?_) (fun h => absurd (Int32.le_refl _) h)
    exact fin H1 locs ls hP hD hS
  | succ j ih =>
    intro i H locs ls hij hl hP hD hS
    have hi : i < 133 := by omega
    have hw28 : kWd i < 28 := kWd_all ⟨i, by omega⟩
    refine lv_iload_n hx hb dI_To_25 rfl (lv_at hl 0 rfl) ?_
    refine va_ldcS hx hb hown hR dI_To_26 ?_
    refine va_calli (va_runV (b := aS) (As := []) (rest := [.int (nI i)]) ⟨hx, hb, hml, hown, hts2⟩ (cJ_length l aS aV x) ⟨callB_of 0 hts2 (mGoodI (M' := mJ_length) (fun _ h => h) (mTBm 1 65 rfl rfl)) rfl rfl rfl (hts2 (.initialized "java/lang/String") (mTBm 1 6 rfl rfl)) (hts2 (.methodLink RX7 21 (mY mJ_length)) (mTBm 1 62 rfl rfl)) ⟨by decide +kernel, by decide +kernel, by decide +kernel⟩ ⟨by show 2 + 1 ≤ R.frames; omega, by show 8 + (1 + 11) + 128 ≤ R.locals; omega⟩, (hts2 (.instanceMethod (mY mJ_length)) (mTBm 1 63 rfl rfl)), (hts2 (.selects "java/lang/String" (mY mJ_length) (mY mJ_length)) (mTBm 1 64 rfl rfl))⟩ ⟨fun a U g mk q => by obtain ⟨q0, q1⟩ := q; exact ⟨q0, kJ.moved (u := U) (U := U.calling g mk a) (Vm.Alike.refl U.vm) q1⟩, vk_recv hJ.2.2 (i := 0) (by decide) hS, fun U hU hW => ⟨rfl, by show kJ aS aV x noA U U.heap; rw [hU]; exact ((hJ.kept hS.2.1).narrow (fun _ h => h.elim)).moved hW.alike⟩⟩ rfl rfl hl.1 rfl (lv_room (Nat.le_of_ble_eq_true rfl)) dI_To_28 ⟨by omega, by omega⟩) hS (fun _ _ h => h.elim) (fun _ h => h.elim) (fun r u t H1 locs ht hvm hw hB hz1 hk1 hS => ?_)
    subst hw
    have hP := hP.kept (fun k x hx => hk1 x.1 ((hP k x hx).lt) (fun h => h))
    refine lv_icmp_ge hx hb dI_To_31 (tgt := 92) rfl (fun h => absurd h (nI_ge hi (by omega))) (fun _ => ?_)
    refine lv_iload_n hx hb dI_To_34 rfl (lv_at hl 1 rfl) ?_
    refine lv_aload_n hx hb dI_To_35 rfl (lv_at hl 2 rfl) ?_
    refine va_get hx hb hts2 lay1 hown hK hP 0 rfl rfl 1 (by decide) (hts2 (.fieldLink RX7 15 RX7 "keywords" "[J") (mTBm 1 112 rfl rfl)) (fun _ h9 => h9) rfl dI_To_36 ?_
    refine va_alen hx hb hK hP 2 1 rfl rfl (v := nI 28) rfl dI_To_39 ?_
    refine lv_icmp_ge hx hb dI_To_40 (tgt := 92) rfl (fun h => absurd h (nI_ge hw28 (by omega))) (fun _ => ?_)
    refine va_ldcS hx hb hown hR dI_To_43 ?_
    refine lv_iload_n hx hb dI_To_45 rfl (lv_at hl 0 rfl) ?_
    clear ht hvm hB hz1 hk1
    generalize H1 = H at hP hS ⊢
    refine va_calli (va_runV (b := aS) (As := [.int (nI i)]) (rest := []) ⟨hx, hb, hml, hown, hts2⟩ (cJ_charAt l aS aV x hi hx1) ⟨callB_of 1 hts2 (mGoodI (M' := mJ_charAt) (fun _ h => h) (mTBm 1 75 rfl rfl)) rfl rfl rfl (hts2 (.initialized "java/lang/String") (mTBm 1 6 rfl rfl)) (hts2 (.methodLink RX7 27 (mY mJ_charAt)) (mTBm 1 72 rfl rfl)) ⟨by decide +kernel, by decide +kernel, by decide +kernel⟩ ⟨by show 4 + 1 ≤ R.frames; omega, by show 8 + (2 + 11) + 256 ≤ R.locals; omega⟩, (hts2 (.instanceMethod (mY mJ_charAt)) (mTBm 1 73 rfl rfl)), (hts2 (.selects "java/lang/String" (mY mJ_charAt) (mY mJ_charAt)) (mTBm 1 74 rfl rfl))⟩ ⟨fun a U g mk q => by obtain ⟨q0, q1⟩ := q; exact ⟨q0, kJ.moved (u := U) (U := U.calling g mk a) (Vm.Alike.refl U.vm) q1⟩, vk_recv hJ.2.2 (i := 0) (by decide) hS, fun U hU hW => ⟨rfl, by show kJ aS aV x noA U U.heap; rw [hU]; exact ((hJ.kept hS.2.1).narrow (fun _ h => h.elim)).moved hW.alike⟩⟩ rfl rfl hl.1 rfl (lv_room (Nat.le_of_ble_eq_true rfl)) dI_To_46 ⟨by omega, by omega⟩) hS (fun _ _ h => h.elim) (fun _ h => h.elim) (fun r u t H1 locs ht hvm hw hB hz1 hk1 hS => ?_)
    subst hw
    have hP := hP.kept (fun k x hx => hk1 x.1 ((hP k x hx).lt) (fun h => h))
    generalize H1 = H at hP hS ⊢
    refine lv_istore_n hx hb dI_To_49 rfl hl (by decide) (lv' := [(3, .int (kBy.getD i 0)), (2, .int (nI i)), (1, .int (nI (kWd i))), (0, .ref h0)]) rfl (fun ls hl => ?_)
    refine lv_iload_n hx hb dI_To_50 rfl (lv_at hl 0 rfl) ?_
    refine lv_bipush hx hb dI_To_51 (v := 32) rfl ?_
    refine lv_icmp_ne hx hb dI_To_53 (tgt := 62) rfl (fun hne => ?_) (fun heq => ?_)
    · refine lv_aload_n hx hb dI_To_62 rfl (lv_at hl 3 rfl) ?_
      refine va_get hx hb hts2 lay1 hown hK hP 0 rfl rfl 1 (by decide) (hts2 (.fieldLink RX7 15 RX7 "keywords" "[J") (mTBm 1 112 rfl rfl)) (fun _ h9 => h9) rfl dI_To_63 ?_
      refine lv_iload_n hx hb dI_To_66 rfl (lv_at hl 2 rfl) ?_
      refine lv_aload_n hx hb dI_To_67 rfl (lv_at hl 3 rfl) ?_
      refine va_get hx hb hts2 lay1 hown hK hP 0 rfl rfl 1 (by decide) (hts2 (.fieldLink RX7 15 RX7 "keywords" "[J") (mTBm 1 112 rfl rfl)) (fun _ h9 => h9) rfl dI_To_68 ?_
      refine lv_iload_n hx hb dI_To_71 rfl (lv_at hl 2 rfl) ?_
      refine va_lald hx hb hK hP 2 1 rfl rfl (vp_in_nI hw28 (by decide)) dI_To_72 ?_
      refine lv_ldc2 hx hb hown (v := 32) (hts2 (.constantLong RX7 31 32) (mTBm 1 110 rfl rfl)) dI_To_73 ?_
      refine lv_lmul hx hb dI_To_76 ?_
      refine lv_iload_n hx hb dI_To_77 rfl (lv_at hl 0 rfl) ?_
      refine lv_bipush hx hb dI_To_78 (v := 97) rfl ?_
      refine lv_isub hx hb dI_To_80 ?_
      refine lv_iconst hx hb dI_To_81 (v := 1) rfl ?_
      refine lv_iadd hx hb dI_To_82 ?_
      refine lv_i2l hx hb dI_To_83 rfl ?_
      refine lv_ladd hx hb dI_To_84 ?_
      refine va_last hx hb hK hP hD hS 2 1 rfl rfl (vp_in_nI hw28 (by decide)) dI_To_85 (fun H locs hP hD hS => ?_)
      have ec : (nI (kWd i)).toNatClampNeg = kWd i := nI_clamp (by omega)
      have ef : kF (i + 1) = vp_updL (kF i) (kWd i) (kF i (kWd i) * 32 + (kBy.getD i 0 - 97 + 1).toInt64) := by rw [kF, if_neg hne]
      have ew : kWd (i + 1) = kWd i := by rw [kWd, if_neg hne]
      rw [ec] at hP hD
      rw [← ef] at hP hD
      refine lv_iinc hx hb dI_To_86 hl (k := 1) rfl (v := nI (i + 1)) (nI_1 _) (by decide) (lv' := [(2, .int (nI (i + 1))), (3, .int (kBy.getD i 0)), (1, .int (nI (kWd i))), (0, .ref h0)]) rfl (fun ls hl => ?_)
      refine lv_goto hx hb dI_To_89 (tgt := 25) rfl ?_
      have hl2 : lv_has ls 4 [(2, .int (nI (i + 1))), (1, .int (nI (kWd (i + 1)))), (0, .ref h0)] := by rw [ew]; exact lv_sub hl [0, 2, 3] rfl
      exact ih (i + 1) H locs ls (by omega) hl2 hP hD hS
    · refine lv_iinc hx hb dI_To_56 hl (k := 2) rfl (v := nI (kWd i + 1)) (nI_1 _) (by decide) (lv' := [(1, .int (nI (kWd i + 1))), (3, .int (kBy.getD i 0)), (2, .int (nI i)), (0, .ref h0)]) rfl (fun ls hl => ?_)
      refine lv_goto hx hb dI_To_59 (tgt := 86) rfl ?_
      have ef : kF (i + 1) = kF i := by rw [kF, if_pos heq]
      have ew : kWd (i + 1) = kWd i + 1 := by rw [kWd, if_pos heq]
      refine lv_iinc hx hb dI_To_86 hl (k := 2) rfl (v := nI (i + 1)) (nI_1 _) (by decide) (lv' := [(2, .int (nI (i + 1))), (1, .int (nI (kWd i + 1))), (3, .int (kBy.getD i 0)), (0, .ref h0)]) rfl (fun ls hl => ?_)
      refine lv_goto hx hb dI_To_89 (tgt := 25) rfl ?_
      have hl2 : lv_has ls 4 [(2, .int (nI (i + 1))), (1, .int (nI (kWd (i + 1)))), (0, .ref h0)] := by rw [ew]; exact lv_sub hl [0, 1, 3] rfl
      rw [← ef] at hP hD
      exact ih (i + 1) H locs ls (by omega) hl2 hP hD hS
def mI_To : mM := (yX7_init, cX7_init, 4, none, 7)
def blkTo (ad : Nat → Nat) (cA : Nat → ClassId) : va_W := [(ad 0, .inr (7, [.ref (ad 1), .ref (ad 2), .int 0, .int 0, .int 0, .int 0, .int 0, .int 0, .long 0, .int 0, .int 0])), (ad 1, .inl (cA 1, (900, .inl (fun _ => 0)))), (ad 2, .inl (cA 2, (28, .inr (.inl (kF 133)))))]
def tysTo (cA : Nat → ClassId) : List (ClassId × FieldType) := [(cA 1, .byte), (cA 2, .long)]
theorem dI_To_0 : decode cX7_init 0 = .ok (.aload_n 0, 1) := by decide +kernel
theorem dI_To_1 : decode cX7_init 1 = .ok (.invokespecial 3, 3) := by decide +kernel
theorem dI_To_4 : decode cX7_init 4 = .ok (.aload_n 0, 1) := by decide +kernel
theorem dI_To_5 : decode cX7_init 5 = .ok (.sipush 900, 3) := by decide +kernel
theorem dI_To_8 : decode cX7_init 8 = .ok (.newarray .byte, 2) := by decide +kernel
theorem dI_To_10 : decode cX7_init 10 = .ok (.putfield 9, 3) := by decide +kernel
theorem dI_To_13 : decode cX7_init 13 = .ok (.aload_n 0, 1) := by decide +kernel
theorem dI_To_14 : decode cX7_init 14 = .ok (.bipush 28, 2) := by decide +kernel
theorem dI_To_16 : decode cX7_init 16 = .ok (.newarray .long, 2) := by decide +kernel
theorem dI_To_18 : decode cX7_init 18 = .ok (.putfield 15, 3) := by decide +kernel
theorem dI_To_21 : decode cX7_init 21 = .ok (.iconst 0, 1) := by decide +kernel
theorem dI_To_22 : decode cX7_init 22 = .ok (.istore_n 1, 1) := by decide +kernel
theorem dI_To_23 : decode cX7_init 23 = .ok (.iconst 0, 1) := by decide +kernel
theorem dI_To_24 : decode cX7_init 24 = .ok (.istore_n 2, 1) := by decide +kernel
theorem dI_To_92 : decode cX7_init 92 = .ok (.return_, 1) := by decide +kernel
set_option maxHeartbeats 4000000 in
set_option maxRecDepth 100000 in
theorem cI_To (l : Launch) (D : va_G) (h0 sz : Nat) (aS aV : Nat) (x : Value) (hx1 : x.category = 1) : Met l (mY mI_To) (mW mI_To) { frames := 5, cells := 2, slots := 928, locals := 320 } (va_Pc [.ref h0] (fun U => U.heap.size = sz ∧ va_P D vwCl [(h0, .inr (7, [.null, .null, .int 0, .int 0, .int 0, .int 0, .int 0, .int 0, .long 0, .int 0, .int 0]))] U.heap ∧ va_K D vwCl [] U ∧ va_D (fun _ => True) [(h0, .inr (7, [.null, .null, .int 0, .int 0, .int 0, .int 0, .int 0, .int 0, .long 0, .int 0, .int 0]))] ∧ kJ aS aV x (va_A [(h0, .inr (7, [.null, .null, .int 0, .int 0, .int 0, .int 0, .int 0, .int 0, .long 0, .int 0, .int 0]))] sz) U U.heap ∧ vk_R RX7 19 kTx aS U)) (va_Qv (fun u : (Nat → Nat) × (Nat → ClassId) => u.1 0 = h0) (fun u t => va_P D vwCl (blkTo u.1 u.2) t.heap ∧ va_K D vwCl (tysTo u.2) t ∧ va_D (va_A [(h0, .inr (7, [.null, .null, .int 0, .int 0, .int 0, .int 0, .int 0, .int 0, .long 0, .int 0, .int 0]))] sz) (blkTo u.1 u.2)) (va_A [(h0, .inr (7, [.null, .null, .int 0, .int 0, .int 0, .int 0, .int 0, .int 0, .long 0, .int 0, .int 0]))] sz)) 2 928 (va_A [(h0, .inr (7, [.null, .null, .int 0, .int 0, .int 0, .int 0, .int 0, .int 0, .long 0, .int 0, .int 0]))] sz) := by
  refine Met.ofW (cc := cX7_init) (maxL := 4) (ret := none) (by decide) rfl ?_
  intro p e s m args below meth c s₁ B hml hv
  obtain ⟨rfl, hsz, hP, hK, hD0, hJ, hR⟩ := hv
  have hx := B.exec
  have hb := B.bytes
  have hr := B.returns
  have hts := atoms_spec (ws := mW mI_To) B.pre
  have hts2 : ∀ w ∈ mTB, w.before #[Value.ref h0] s = true := fun w hw => hts w (List.mem_cons_of_mem _ hw)
  have hown : s.vm.findClass RX7 = some m.cls := findClass_of_methodNamed B.named
  have hlocks := B.notSynchronized
  have hin : meth.name = "<init>" := (name_of_methodNamed B.named B.method).1
  subst hsz
  have hD := hD0.self (sz := s.heap.size)
  generalize hAe : va_A [(h0, .inr (7, [.null, .null, .int 0, .int 0, .int 0, .int 0, .int 0, .int 0, .long 0, .int 0, .int 0]))] s.heap.size = A at hD hJ ⊢
  have hA : ∀ q : Nat, s.heap.size ≤ q → A q := fun q h => by rw [← hAe]; exact Or.inr h
  have hS : va_S A s.heap s.heap [] := va_S.rf
  have hl := lv_entry ([.ref h0]) (n := 4) (Nat.le_of_ble_eq_true rfl)
  rw [lg_entry_eq]
  generalize (lg_sl ([.ref h0]) ++ List.replicate (4 - (lg_sl ([.ref h0])).length) Slot.unset).toArray = ls at hl ⊢
  have hl : lv_has ls 4 [(0, .ref h0)] := hl
  obtain ⟨lay1, lay2, lay3, lay4⟩ := id (mLay (show vwCl[7]? = some (RX7, TX7, 11) from rfl))
  refine lv_aload_n hx hb dI_To_0 rfl (lv_at hl 0 rfl) ?_
  refine W.objInit hx hb hown (hts (.methodLink RX7 3 objectInit) (List.mem_cons_of_mem _ (mTBm 1 60 rfl rfl))) (hts (.instanceMethod objectInit) (List.mem_cons_of_mem _ (mTBm 1 26 rfl rfl))) (hts (.code objectInit ⟨#[0xb1]⟩ 1 none) (List.mem_cons_of_mem _ (mTBm 1 27 rfl rfl))) rfl (by rw [hml]; exact hl.1) rfl dI_To_1 (Nat.le_of_ble_eq_true rfl) (Nat.le_of_ble_eq_true rfl) ?_
  refine W.eq (g2 := F0 m 4 ls []) rfl ?_
  refine lv_aload_n hx hb dI_To_4 rfl (lv_at hl 0 rfl) ?_
  refine lv_sipush hx hb dI_To_5 (v := nI 900) rfl ?_
  refine va_newa (atype := .byte) (a0 := (900, .inl (fun _ => 0))) (N' := 900) (ty := .byte) hx hb (hts (.arrayClass .byte) (List.mem_cons_of_mem _ (mTBm 1 149 rfl rfl))) rfl hK hP hD hS hA (ha_byte 900) (nI_pos (by decide)) (nI_clamp (by decide)) (Nat.le_of_ble_eq_true rfl) (Nat.le_of_ble_eq_true rfl) (Nat.le_of_ble_eq_true rfl) dI_To_8 (fun q1 c1 H hK hP hD hS => ?_)
  have hP : va_P D vwCl [(h0, .inr (7, [.null, .null, .int 0, .int 0, .int 0, .int 0, .int 0, .int 0, .long 0, .int 0, .int 0])), (q1, .inl (c1, (900, .inl (fun _ => 0))))] H := hP
  have hD : va_D A [(h0, .inr (7, [.null, .null, .int 0, .int 0, .int 0, .int 0, .int 0, .int 0, .long 0, .int 0, .int 0])), (q1, .inl (c1, (900, .inl (fun _ => 0))))] := hD
  have hK : va_K D vwCl [(c1, .byte)] s := hK
  refine va_putF (D := D) (ci := 7) (v := .ref q1) (ty := (.array .byte)) (C := RX7) (T := TX7) (N := 11) hx hb hts2 lay1 _ lay3 lay4 hown hK hP hD hS 0 rfl rfl 0 (by decide) (hts2 (.fieldLink RX7 9 RX7 "tape" "[B") (mTBm 1 111 rfl rfl)) (fun _ h9 => h9) rfl hin rfl (by decide +kernel) rfl rfl (Nat.le_of_ble_eq_true rfl) dI_To_10 (fun H locs hP hD hS => ?_)
  have hP : va_P D vwCl [(h0, .inr (7, [.ref q1, .null, .int 0, .int 0, .int 0, .int 0, .int 0, .int 0, .long 0, .int 0, .int 0])), (q1, .inl (c1, (900, .inl (fun _ => 0))))] H := hP
  have hD : va_D A [(h0, .inr (7, [.ref q1, .null, .int 0, .int 0, .int 0, .int 0, .int 0, .int 0, .long 0, .int 0, .int 0])), (q1, .inl (c1, (900, .inl (fun _ => 0))))] := hD
  refine lv_aload_n hx hb dI_To_13 rfl (lv_at hl 0 rfl) ?_
  refine lv_bipush hx hb dI_To_14 (v := nI 28) rfl ?_
  refine va_newa (atype := .long) (a0 := (28, .inr (.inl (fun _ => 0)))) (N' := 28) (ty := .long) hx hb (hts (.arrayClass .long) (List.mem_cons_of_mem _ (mTBm 1 47 rfl rfl))) rfl hK hP hD hS hA (ha_long 28) (nI_pos (by decide)) (nI_clamp (by decide)) (Nat.le_of_ble_eq_true rfl) (Nat.le_of_ble_eq_true rfl) (Nat.le_of_ble_eq_true rfl) dI_To_16 (fun q2 c2 H hK hP hD hS => ?_)
  have hP : va_P D vwCl [(h0, .inr (7, [.ref q1, .null, .int 0, .int 0, .int 0, .int 0, .int 0, .int 0, .long 0, .int 0, .int 0])), (q1, .inl (c1, (900, .inl (fun _ => 0)))), (q2, .inl (c2, (28, .inr (.inl (fun _ => 0)))))] H := hP
  have hD : va_D A [(h0, .inr (7, [.ref q1, .null, .int 0, .int 0, .int 0, .int 0, .int 0, .int 0, .long 0, .int 0, .int 0])), (q1, .inl (c1, (900, .inl (fun _ => 0)))), (q2, .inl (c2, (28, .inr (.inl (fun _ => 0)))))] := hD
  have hK : va_K D vwCl [(c1, .byte), (c2, .long)] s := hK
  refine va_putF (D := D) (ci := 7) (v := .ref q2) (ty := (.array .long)) (C := RX7) (T := TX7) (N := 11) hx hb hts2 lay1 _ lay3 lay4 hown hK hP hD hS 0 rfl rfl 1 (by decide) (hts2 (.fieldLink RX7 15 RX7 "keywords" "[J") (mTBm 1 112 rfl rfl)) (fun _ h9 => h9) rfl hin rfl (by decide +kernel) rfl rfl (Nat.le_of_ble_eq_true rfl) dI_To_18 (fun H locs hP hD hS => ?_)
  have hP : va_P D vwCl [(h0, .inr (7, [.ref q1, .ref q2, .int 0, .int 0, .int 0, .int 0, .int 0, .int 0, .long 0, .int 0, .int 0])), (q1, .inl (c1, (900, .inl (fun _ => 0)))), (q2, .inl (c2, (28, .inr (.inl (fun _ => 0)))))] H := hP
  have hD : va_D A [(h0, .inr (7, [.ref q1, .ref q2, .int 0, .int 0, .int 0, .int 0, .int 0, .int 0, .long 0, .int 0, .int 0])), (q1, .inl (c1, (900, .inl (fun _ => 0)))), (q2, .inl (c2, (28, .inr (.inl (fun _ => 0)))))] := hD
  refine lv_iconst hx hb dI_To_21 (v := nI 0) rfl ?_
  refine lv_istore_n hx hb dI_To_22 rfl hl (by decide) (lv' := [(1, .int (nI 0)), (0, .ref h0)]) rfl (fun ls hl => ?_)
  refine lv_iconst hx hb dI_To_23 (v := nI 0) rfl ?_
  refine lv_istore_n hx hb dI_To_24 rfl hl (by decide) (lv' := [(2, .int (nI 0)), (1, .int (nI 0)), (0, .ref h0)]) rfl (fun ls hl => ?_)
  refine tok_loop hx hb hml hown hts2 hK hJ hR hx1 (Nat.le_of_ble_eq_true rfl) (Nat.le_of_ble_eq_true rfl) (Nat.le_of_ble_eq_true rfl) (Nat.le_of_ble_eq_true rfl) (fun H locs ls hP hD hS => ?_) 133 0 H locs ls (by omega) hl hP hD hS
  refine W.widen (k := 2) (n := 928) (by decide) (by decide) ?_
  exact W.vret hx hb hr (fun t ht hW => ⟨⟨(fun i => ([h0, q1, q2] : List Nat).getD i 0, fun i => ([c1, c1, c2] : List ClassId).getD i c1), rfl, rfl, by rw [ht]; exact hP, va_K.moved hW.alike hK, hD⟩, hS.F ht⟩) hS.2.2 dI_To_92
