/-! the law, whole -/
theorem dLs_0 : decode code 0 = .ok (.new 7, 3) := by decide +kernel
theorem dLs_3 : decode code 3 = .ok (.dup, 1) := by decide +kernel
theorem dLs_4 : decode code 4 = .ok (.invokespecial 9, 3) := by decide +kernel
theorem dLs_7 : decode code 7 = .ok (.astore_n 1, 1) := by decide +kernel
theorem dLs_8 : decode code 8 = .ok (.new 10, 3) := by decide +kernel
theorem dLs_11 : decode code 11 = .ok (.dup, 1) := by decide +kernel
theorem dLs_12 : decode code 12 = .ok (.invokespecial 12, 3) := by decide +kernel
theorem dLs_15 : decode code 15 = .ok (.astore_n 2, 1) := by decide +kernel
set_option maxHeartbeats 4000000 in
set_option maxRecDepth 100000 in
theorem whole_start {p : Program} {e : Env} {s : State} {m : MethodId} {below : List Frame} {meth : Method} {c : Code} (l : Launch) {b L : Nat} {xs : Nat → Int32} (hL : L ≤ 3072) (C0 : lw_At p s m meth c b L xs) : W p l e room_1 s m #[Value.ref b] below meth c s.heap [] 0 0 (lw_Z below #[Value.ref b] s) (entryFrame m ([Value.ref b] : List Value).toArray 4) := by
  obtain ⟨hx, hb, hr, hml, hown0, hts, hX, hbl, hlocks, hgv⟩ := id C0
  have hown : s.vm.findClass RX12 = some m.cls := hown0
  have hts2 : ∀ w ∈ mTB, w.before #[Value.ref b] s = true := fun w hw => hts w (List.mem_filter.mp hw).1
  obtain ⟨D, hK⟩ := lw_known hts2
  have hAo : ∀ a : Nat, a < s.heap.size → ¬ (fun q : Nat => s.heap.size ≤ q) a := fun a h => Nat.not_le.mpr h
  have hA : ∀ q : Nat, s.heap.size ≤ q → (fun q : Nat => s.heap.size ≤ q) q := fun _ h => h
  have hAf : ∀ q : Nat, (fun q : Nat => s.heap.size ≤ q) q → s.heap.size ≤ q := fun _ h => h
  generalize (fun q : Nat => s.heap.size ≤ q) = A at hAo hA hAf
  obtain ⟨aS, aV, x, hx1, hJ, hR⟩ := lw_text hts hgv hAo
  obtain ⟨a1, hX1, hl1, hZ1⟩ := lw_starts hts hgv hAo
  have hN : kN s := lw_nest hts
  have hAO : va_AO "PaperBread$Town" s := va_AO.of (hts (.arrayOver (.object "PaperBread$Town")) (mChunk_in 2 _ (List.mem_of_getElem? (i := 118) rfl)))
  have hS : va_S A s.heap s.heap [] := va_S.rf
  have hP : va_P D vwCl ([] : va_W) s.heap := fun k q h => by simp at h
  have hD : va_D A ([] : va_W) := ⟨fun i j p q h => by simp at h, fun k q h => by simp at h⟩
  have hl := lv_entry ([.ref b]) (n := 4) (Nat.le_of_ble_eq_true rfl)
  rw [lg_entry_eq]
  generalize (lg_sl ([.ref b]) ++ List.replicate (4 - (lg_sl ([.ref b])).length) Slot.unset).toArray = ls at hl ⊢
  have hl : lv_has ls 4 [(0, .ref b)] := hl
  refine va_new (D := D) (ci := 10) (fs := [.null, .null, .null, .null, .null, .null, .null, .null, .null, .int 0, .int 0, .long 0, .long 0, .int 0, .int 0, .int 0]) (C := RX10) (T := TX10) (N := 16) hx hb hts2 (mLay (show vwCl[10]? = some (RX10, TX10, 16) from rfl)).1 (mTyF 10) (mLay (show vwCl[10]? = some (RX10, TX10, 16) from rfl)).2.2.1 hown (hts2 (.classLink RX12 7 RX10) (mTBm 1 20 rfl rfl)) (hts2 (.instantiable RX10 16) (mTBm 1 21 rfl rfl)) (hts2 (.initialized RX10) (mTBm 1 1 rfl rfl)) hK hP hD hS hA rfl dv_Pb (Nat.le_of_ble_eq_true rfl) (Nat.le_of_ble_eq_true rfl) dLs_0 (fun q1 H hP' hD' hS' => ?_)
  clear hP hD hS
  have hS := hS'
  clear hS'
  have hP := hP'
  have hD := hD'
  clear hP' hD'
  refine lv_dup hx hb dLs_3 rfl ?_
  have hPc := kl_P hP
  have hDc := kl_D hD
  have hKc := hK.sub (tys' := []) [] rfl
  have hFc := kl_F hD hS hA
  refine va_callv (va_runI (b := q1) (As := []) (rest := .ref q1 :: []) ⟨hx, hb, hml, hown, hts2⟩ (cI_Pb l D q1 H.size aS aV x hx1) ⟨callB_of 0 hts2 (mGoodI (M' := mI_Pb) (fun _ h => h) (mTBm 1 24 rfl rfl)) rfl rfl rfl (hts2 (.initialized RX10) (mTBm 1 1 rfl rfl)) (hts2 (.methodLink RX12 9 (mY mI_Pb)) (mTBm 1 22 rfl rfl)) ⟨by decide +kernel, by decide +kernel, by decide +kernel⟩ ⟨Nat.le_of_ble_eq_true rfl, Nat.le_of_ble_eq_true rfl⟩, rfl, (hts2 (.instanceMethod (mY mI_Pb)) (mTBm 1 23 rfl rfl))⟩ ⟨fun a U g mk q => by obtain ⟨q0, q1, qP, qK, qD, qA, qN, qJ, qR⟩ := q; exact ⟨q0, q1, qP, va_K.moved (u := U) (U := U.calling g mk a) (Vm.Alike.refl U.vm) qK, qD, va_AO.moved (u := U) (U := U.calling g mk a) (Vm.Alike.refl U.vm) qA, kN.same (u := U) (U := U.calling g mk a) rfl qN, kJ.moved (u := U) (U := U.calling g mk a) (Vm.Alike.refl U.vm) qJ, vk_R.same (u := U) (U := U.calling g mk a) rfl qR⟩, fun U hU hW => ⟨rfl, by rw [hU], by rw [hU]; exact hPc, va_K.moved hW.alike hKc, hDc.weaken (fun _ _ _ _ => trivial), hAO.moved hW.alike, hN.warm hW, by rw [hU]; exact ((hJ.kept hS.2.1).narrow hFc).moved hW.alike, hR.warm hW⟩⟩ rfl rfl hl.1 rfl (lv_room (Nat.le_of_ble_eq_true rfl)) dLs_4 ⟨Nat.le_of_ble_eq_true rfl, Nat.le_of_ble_eq_true rfl⟩) hS (fun q _ h => hFc q h) hFc (fun u1 t H1 locs ht hvm hw hB hz1 hk1 hS' => ?_)
  obtain ⟨hP1, hK1, hD1⟩ := hB
  rw [ht] at hP1
  have hK1 := va_K.moved hvm.symm hK1
  clear hPc hDc hKc
  subst hw
  obtain ⟨hP', hD'⟩ := kl_J hP hD hk1 hFc hP1 hD1
  clear hFc hz1 hk1 hP1 hD1
  clear hP hD hS
  have hS := hS'
  clear hS'
  have hK' := hK.app hK1
  clear hK hK1
  clear ht hvm
  generalize H1 = H at hP' hS ⊢
  have hK : va_K D vwCl (([] : List (ClassId × FieldType)) ++ tysPb u1.2) s := hK'
  clear hK'
  have hP : va_P D vwCl (([] : va_W) ++ blkPb u1.1 u1.2) H := hP'
  have hD : va_D A (([] : va_W) ++ blkPb u1.1 u1.2) := hD'
  clear hP' hD'
  refine lv_astore_n hx hb dLs_7 rfl hl (by decide) (lv' := [(1, .ref (u1.1 0)), (0, .ref b)]) rfl (fun ls hl => ?_)
  refine va_new (D := D) (ci := 11) (fs := [.int 0, .int 0, .long 0, .long 0, .null, .null, .null, .null, .int 0, .int 0, .int 0, .int 0, .int 0, .int 0, .int 0, .int 0, .int 0, .int 0, .int 0, .long 0, .null, .null, .null, .int 0, .int 0, .null, .null, .null, .int 0, .null, .null, .null, .null, .int 0, .null, .null, .null, .int 0, .int 0, .int 0, .int 0, .int 0, .int 0, .int 0, .int 0, .int 0]) (C := RX11) (T := TX11) (N := 46) hx hb hts2 (mLay (show vwCl[11]? = some (RX11, TX11, 46) from rfl)).1 (mTyF 11) (mLay (show vwCl[11]? = some (RX11, TX11, 46) from rfl)).2.2.1 hown (hts2 (.classLink RX12 10 RX11) (mTBm 6 53 rfl rfl)) (hts2 (.instantiable RX11 46) (mTBm 6 54 rfl rfl)) (hts2 (.initialized RX11) (mTBm 1 17 rfl rfl)) hK hP hD hS hA rfl dv_Mo (Nat.le_of_ble_eq_true rfl) (Nat.le_of_ble_eq_true rfl) dLs_8 (fun q2 H hP' hD' hS' => ?_)
  clear hP hD hS
  have hS := hS'
  clear hS'
  have hP := hP'
  have hD := hD'
  clear hP' hD'
  refine lv_dup hx hb dLs_11 rfl ?_
  have hPc := kl_P hP
  have hDc := kl_D hD
  have hKc := hK.sub (tys' := []) [] rfl
  have hFc := kl_F hD hS hA
  refine va_callv (va_runI (b := q2) (As := []) (rest := .ref q2 :: []) ⟨hx, hb, hml, hown, hts2⟩ (cI_Mo l D q2 H.size) ⟨callB_of 0 hts2 (mGoodI (M' := mI_Mo) (fun _ h => h) (mTBm 6 57 rfl rfl)) rfl rfl rfl (hts2 (.initialized RX11) (mTBm 1 17 rfl rfl)) (hts2 (.methodLink RX12 12 (mY mI_Mo)) (mTBm 6 55 rfl rfl)) ⟨by decide +kernel, by decide +kernel, by decide +kernel⟩ ⟨Nat.le_of_ble_eq_true rfl, Nat.le_of_ble_eq_true rfl⟩, rfl, (hts2 (.instanceMethod (mY mI_Mo)) (mTBm 6 56 rfl rfl))⟩ ⟨fun a U g mk q => by obtain ⟨q0, q1, qP, qK, qD⟩ := q; exact ⟨q0, q1, qP, va_K.moved (u := U) (U := U.calling g mk a) (Vm.Alike.refl U.vm) qK, qD⟩, fun U hU hW => ⟨rfl, by rw [hU], by rw [hU]; exact hPc, va_K.moved hW.alike hKc, hDc.weaken (fun _ _ _ _ => trivial)⟩⟩ rfl rfl hl.1 rfl (lv_room (Nat.le_of_ble_eq_true rfl)) dLs_12 ⟨Nat.le_of_ble_eq_true rfl, Nat.le_of_ble_eq_true rfl⟩) hS (fun q _ h => hFc q h) hFc (fun u2 t H1 locs ht hvm hw hB hz1 hk1 hS' => ?_)
  obtain ⟨hP1, hK1, hD1⟩ := hB
  rw [ht] at hP1
  have hK1 := va_K.moved hvm.symm hK1
  clear hPc hDc hKc
  subst hw
  obtain ⟨hP', hD'⟩ := kl_J hP hD hk1 hFc hP1 hD1
  clear hFc hz1 hk1 hP1 hD1
  clear hP hD hS
  have hS := hS'
  clear hS'
  have hK' := hK.app hK1
  clear hK hK1
  clear ht hvm
  generalize H1 = H at hP' hS ⊢
  have hK : va_K D vwCl (([] : List (ClassId × FieldType)) ++ tysPb u1.2 ++ tysMo u2.2) s := hK'
  clear hK'
  have hP : va_P D vwCl (([] : va_W) ++ blkPb u1.1 u1.2 ++ blkMo u2.1 u2.2) H := hP'
  have hD : va_D A (([] : va_W) ++ blkPb u1.1 u1.2 ++ blkMo u2.1 u2.2) := hD'
  clear hP' hD'
  refine lv_astore_n hx hb dLs_15 rfl hl (by decide) (lv' := [(2, .ref (u2.1 0)), (1, .ref (u1.1 0)), (0, .ref b)]) rfl (fun ls hl => ?_)
  have ew : mWs (adL b a1 u1.1 u2.1) (jnN 166 u1.2 u2.2) mFirst = ([] : va_W) ++ blkPb u1.1 u1.2 ++ blkMo u2.1 u2.2 := by
    rw [mWs0, pb_ad, mo_ad]
    rfl
  have hT : mTys (([] : List (ClassId × FieldType)) ++ tysPb u1.2 ++ tysMo u2.2) (jnN 166 u1.2 u2.2) := by
    have h := mTys0 (jnN 166 u1.2 u2.2)
    rw [ty_ad] at h
    exact h
  rw [← ew] at hP hD
  have C : mCx p room_1 s m #[Value.ref b] c 184 11607 D (([] : List (ClassId × FieldType)) ++ tysPb u1.2 ++ tysMo u2.2) (adL b a1 u1.1 u2.1) (jnN 166 u1.2 u2.2) A (L, xs) mLa_law := ⟨hx, hb, hml, hown, rfl, hts2, hK, hT, ⟨hX, hbl, hAo b hbl, hX1, hl1, hAo a1 hl1, hZ1⟩, by decide, by decide, by decide, by decide⟩
  have w : WP (L, xs) 81 mLa_law 16 [.ref 1000, .ref 0, .ref 166, uu] [] mFirst (fun r _ => r = some (.int 1)) := law_go (d := 0) hL inv0 (fun _ => rfl)
  rw [WP_lfp] at w
  have hloc : mLoc (adL b a1 u1.1 u2.1) 4 [.ref 1000, .ref 0, .ref 166, uu] ls := by
    refine ⟨rfl, hl.1, hl.2.1, fun i v hi hk => ?_⟩
    match i, hi with
    | 0, hi => cases hi; exact lv_at hl 2 rfl
    | 1, hi => cases hi; exact lv_at hl 1 rfl
    | 2, hi => cases hi; exact lv_at hl 0 rfl
    | 3, hi => cases hi; cases hk
    | i + 4, hi => cases hi
  refine w (mG p l e room_1 s m #[Value.ref b] below meth c 184 11607 (lw_Z below #[Value.ref b] s) D (adL b a1 u1.1 u2.1) (jnN 166 u1.2 u2.2) A mLa_law) (main_cl C 81 (by decide) (by decide) (fun M' n vs σ P hs' hl' h => ⟨80, rfl, Snd 80 hs' hl' h D _ _ _ A⟩) ?_ ?_ ?_) H locs ls ⟨hP, hD, hS⟩ hloc
  · intro i v σ H locs lsr hd hm q hw
    cases q
    exact va_forget (fun q hq => hAf _ (hw.2.2.2.2 q hq)) (W.widen (k := 600000) (n := 7302250) (by decide) (by decide) (lw_ret hx hb hr hlocks hd))
  · intro i v σ H locs lsr hd hm
    cases hm
  · intro i σ H locs lsr hd hm
    cases hm
set_option maxHeartbeats 4000000 in
theorem lw_walk (l : Launch) (b : Addr) (xs : List Int32) : MetFree l x (headSpec (Jvm.Cond.code x code maxLocals ret :: tables_1) room_1) (lw_P b xs) (fun _ _ _ _ _ => True) lw_Q := by
  refine MetFree.of_bodyS (code := code) (maxLocals := maxLocals) (ret := ret) (by decide) ?_ ?_
  · intro args s m h hn
    obtain ⟨meth, c, h1, h2, h3, h4, h5, h6, -, -⟩ := Cond.code_spec hn (atoms_spec (ws := Jvm.Cond.code x code maxLocals ret :: tables_1) h _ List.mem_cons_self)
    exact ⟨meth, c, h1, h2, h3, h4, h5, h6⟩
  · intro p e s m args below meth c s₁ B hml0 hP _
    obtain ⟨rfl, hx, hbd, hgv⟩ := hP
    obtain ⟨scr, harrAt, hlist, hof, hsmall⟩ := hx
    obtain ⟨hcb, hkn, -, -⟩ := State.arrayAt?_spec harrAt
    have hown : s.vm.findClass R_law = some m.cls := findClass_of_methodNamed B.named
    have hts0 : ∀ c ∈ (Jvm.Cond.code x code maxLocals ret :: tables_1), c.before #[Value.ref b] s = true := atoms_spec (ws := Jvm.Cond.code x code maxLocals ret :: tables_1) B.pre
    have hts : ∀ w ∈ lw_tbl, w.before #[Value.ref b] s = true := k2_hts_sels lw_privs (fun w hw => hts0 w (List.mem_cons_of_mem _ hw)) lw_privs_ok
    have hml : c.maxLocals = 4 := B.maxLocals_eq (hts0 _ List.mem_cons_self)
    have X₀ : Stand p l e room_1 s m #[Value.ref b] below meth c s₁ [] 0 0 := Stand.of_body B
    have hh0 : s₁.heap = s.heap := by rw [B.state]; rfl
    have hsz : scr.slots.size = xs.length := by rw [← Array.length_toList, hlist, List.length_map]
    have hval : ∀ j : Nat, j < xs.length → scr.slots[j]? = some (.int (xs.getD j 0)) := fun j hj => by
      rw [← Array.getElem?_toList, hlist]
      simp [hj]
    have hbl : b < s.heap.size := (Array.getElem?_eq_some_iff.mp hcb).1
    have hX : va_X b xs.length (fun j => xs.getD j 0) s s.heap := ⟨scr, hcb, hof, hkn, hsz, hval⟩
    have K : W p l e room_1 s m #[Value.ref b] below meth c s₁.heap [] 0 0 (lw_Z below #[Value.ref b] s) (entryFrame m ([Value.ref b] : List Value).toArray 4) := by
      rw [hh0]
      exact whole_start l hbd ⟨B.exec, B.bytes, B.returns, hml, hown, hts, hX, hbl, B.notSynchronized, hgv⟩
    obtain ⟨t, a1, o, b1, b2, b3⟩ := K s₁ rfl X₀
    exact ⟨t, o, a1, b1, b2, b3⟩
theorem lw_pre_spec {args : Array Value} {s : State} (h : (Jvm.Cond.and given_1 narrow_1).before args s = true) (hr : rest_1_c.before args s = true) : ∃ (b : Addr) (xs : List Int32), lw_P b xs args s := by
  have hs := flat_of_before _ h
  have hq := flat_of_before _ hr
  have hc : (Cond.count 1).before args s = true := hs _ (by decide +kernel)
  have harr : (Cond.arrayOf (.arg 0) .int).before args s = true := hs _ (by decide +kernel)
  have hle : (Cond.le (.length (.arg 0)) (.int 3072)).before args s = true := hs _ (by decide +kernel)
  have hlen : (Cond.isInt (.length (.arg 0))).before args s = true := hq _ (by decide +kernel)
  have hall : (Cond.all (.arg 0) (.isInt (.elem (.arg 0) (.index 0)))).before args s = true := hq _ (by decide +kernel)
  obtain ⟨b, xs, hb, hx⟩ := State.ints_of_pre rfl harr hlen hall
  have hsm : xs.length < 2 ^ 31 := hx.choose_spec.2.2.2
  have hev : (Term.length (.arg 0)).eval args s none [] s = some (.int xs.length.toInt32) := hx.length_eval hb
  have hv := Cond.le_ints hev (show (Term.int 3072).eval args s none [] s = some (.int 3072) from rfl)
  have hd : xs.length.toInt32 ≤ 3072 := by
    simpa [Cond.before, Cond.holds, hv] using hle
  have hN : xs.length ≤ 3072 := (Int32.ofNat_le_ofNat hsm (by decide)).mp (show Int32.ofNat xs.length ≤ Int32.ofNat 3072 from hd)
  exact ⟨b, xs, Cond.one_arg hc (show args[0]? = some (.ref b) from hb), hx, hN, h⟩
theorem lw_comes (l : Launch) : Comes l x (Jvm.Cond.code x code maxLocals ret :: tables_1) room_1 (fun tb e args s => Calls_1 tb e args s ∧ rest_1 tb e args s ∧ Pre_1 tb e args s)
    (fun _ _ args s o t => lw_Q args s o t) := by
  intro p e ha hc hk s m args below hf hfit hheap happ hpre
  obtain ⟨b, xs, hP⟩ := lw_pre_spec hpre.2.2 hpre.2.1
  obtain ⟨k, o, h1, h2, h3, hQ⟩ := lw_walk l b xs p e ha hc hk s m args below hf ((Spec.applies_iff_loose hf).mp happ).1 hP trivial
  exact ⟨k, o, h1, h2, h3, hQ⟩
theorem lw_frame {s t : State} {o : Outcome} {args : Array Value} (h : Framed s o t [] 600000 7302250) :
    Framed s o t (fieldLocs frame_1_writes args s ++ arrayLocs frame_1_arrays args s ++ staticLocs frame_1_statics s) 600000 7302250 := h
theorem lw_limb (L : Cond) (hL : ∀ (args : Array Value) (s t : State), L.after args s (.returned (some (.int 1))) t = true) :
    ArmFor flags0 classFile x code maxLocals ret World_1 tables_1 room_1 Calls_1 rest_1 Pre_1
      (fun tb e a s o t => postC L tb e a s o t ∧ Framed s o t (fieldLocs frame_1_writes a s ++ arrayLocs frame_1_arrays a s ++ staticLocs frame_1_statics s) 600000 7302250) := by
  intro l _ _ _ p e ha hc hk s m args below hf hfit hheap happ hpre
  obtain ⟨k, o, h1, h2, h3, rfl, hF⟩ := lw_comes l p e ha hc hk s m args below hf hfit hheap happ hpre
  exact ⟨k, _, h1, h2, h3, hL args s _, lw_frame hF⟩
theorem i_vc : Claimed_1_1 ∧ Claimed_1_2 := ⟨lw_limb limb_1_1 (fun args s t => by simp [limb_1_1, Cond.after, Cond.holds, Cond.value]), lw_limb limb_1_2 (fun args s t => Cond.after_iff.mpr (by
  first | (rw [show limb_1_2 = Cond.eq .result (.int 1) from rfl, Cond.eq_ints (x := 1) (y := 1) rfl rfl]; simp; done) | (simp [limb_1_2, Cond.value, Term.eval]; done)))⟩
