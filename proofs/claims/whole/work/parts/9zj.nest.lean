/-! the constructors that make others -/
section KL
variable {D : va_G} {cl : List vw_C} {ws w1 : va_W} {y : Nat × va_E} {A : Nat → Prop} {H H0 H1 : Heap} {locs : List Loc}
theorem kl_P (h : va_P D cl (ws ++ [y]) H) : va_P D cl [y] H := fun k q hk => by
  have : k = 0 := by
    have := (List.getElem?_eq_some_iff.mp hk).1
    simp at this; omega
  subst this
  cases hk
  exact h ws.length y (by rw [List.getElem?_append_right (Nat.le_refl _), Nat.sub_self]; rfl)
theorem kl_at : (ws ++ [y])[ws.length]? = some y := by rw [List.getElem?_append_right (Nat.le_refl _), Nat.sub_self]; rfl
theorem kl_D (h : va_D A (ws ++ [y])) : va_D A [y] := by
  refine ⟨fun i j p q hp hq _ => ?_, fun k q hk => ?_⟩
  · have h1 := (List.getElem?_eq_some_iff.mp hp).1
    have h2 := (List.getElem?_eq_some_iff.mp hq).1
    simp at h1 h2; omega
  · have : k = 0 := by
      have := (List.getElem?_eq_some_iff.mp hk).1
      simp at this; omega
    subst this
    cases hk
    exact h.2 _ _ kl_at
theorem kl_F (hD : va_D A (ws ++ [y])) (hS : va_S A H0 H locs) (hA : ∀ q, H0.size ≤ q → A q) : ∀ q, va_A [y] H.size q → A q := va_free (wc := [y]) hD hS hA [ws.length] (by simp)
theorem kl_R : (List.range ws.length).map (fun i => (ws ++ [y])[i]?) = ws.map some := by
  apply List.ext_getElem?
  intro i
  rw [List.getElem?_map, List.getElem?_map]
  by_cases h : i < ws.length
  · rw [List.getElem?_range h, List.getElem?_eq_getElem h]
    show some ((ws ++ [y])[i]?) = some (some ws[i])
    rw [List.getElem?_append_left h, List.getElem?_eq_getElem h]
  · rw [List.getElem?_eq_none (by simp; omega), List.getElem?_eq_none (by omega)]
    rfl
theorem kl_nd0 : ∀ l : List Nat, l.Nodup → va_nd l = true
  | [], _ => rfl
  | a :: l, h => by
    obtain ⟨h1, h2⟩ := List.nodup_cons.mp h
    show (decide (a ∉ l) && va_nd l) = true
    rw [kl_nd0 l h2, decide_eq_true h1]
    rfl
theorem kl_nd (n : Nat) : va_nd (List.range n) = true := kl_nd0 _ List.nodup_range
theorem kl_J (hP : va_P D cl (ws ++ [y]) H) (hD : va_D A (ws ++ [y])) (hk : ∀ q : Nat, q < H.size → ¬ va_A [y] H.size q → H1[q]? = H[q]?) (hF : ∀ q, va_A [y] H.size q → A q) (hP1 : va_P D cl w1 H1) (hD1 : va_D (va_A [y] H.size) w1) : va_P D cl (ws ++ w1) H1 ∧ va_D A (ws ++ w1) :=
  va_join (wc := [y]) hP hD [ws.length] (List.range ws.length) (by simp) kl_R (kl_nd _) (fun i hi => by simp at hi ⊢; omega) hk hF hP1 hD1
end KL
def kNw : List Cond := [.methodLinkNest "PaperBread" 18 ⟨"PaperBread$Texts", "<init>", "()V"⟩ "PaperBread", .methodLinkNest "PaperBread" 25 ⟨"PaperBread$Town", "<init>", "()V"⟩ "PaperBread", .methodLinkNest "PaperBread$Town" 11 ⟨"PaperBread$Names", "<init>", "()V"⟩ "PaperBread", .methodLinkNest "PaperBread$Town" 20 ⟨"PaperBread$Promises", "<init>", "()V"⟩ "PaperBread", .methodLinkNest "PaperBread$Town" 27 ⟨"PaperBread$Days", "<init>", "()V"⟩ "PaperBread", .methodLinkNest "PaperBread" 39 ⟨"PaperBread$Share", "<init>", "()V"⟩ "PaperBread", .methodLinkNest "PaperBread" 46 ⟨"PaperBread$Netting", "<init>", "()V"⟩ "PaperBread", .methodLinkNest "PaperBread" 53 ⟨"PaperBread$Living", "<init>", "()V"⟩ "PaperBread", .methodLinkNest "PaperBread$Living" 11 ⟨"PaperBread$Share", "<init>", "()V"⟩ "PaperBread"]
def kN (U : State) : Prop := ∀ w ∈ kNw, va_Nw w U
theorem kN.warm {s U : State} (hW : s.WarmedH U.vm) (h : kN s) : kN U := fun w hw => by
  have h1 := h w hw
  simp only [kNw, List.mem_cons, List.not_mem_nil, or_false] at hw
  rcases hw with rfl | rfl | rfl | rfl | rfl | rfl | rfl | rfl | rfl <;> exact va_Nw.warmM hW h1
theorem kN.same {u U : State} (hv : u.vm = U.vm) (h : kN u) : kN U := fun w hw => by
  have h1 := h w hw
  simp only [kNw, List.mem_cons, List.not_mem_nil, or_false] at hw
  rcases hw with rfl | rfl | rfl | rfl | rfl | rfl | rfl | rfl | rfl <;> exact va_Nw.same rfl hv h1
def shN {α : Type} (f : Nat → α) (n : Nat) : Nat → α := fun i => f (n + i)
def jnN {α : Type} (n : Nat) (f g : Nat → α) : Nat → α := fun i => bif Nat.blt i n then f i else g (i - n)
theorem dv_Da : ∀ j, j < 6 → defaultValue (mTyF 0 j) = vp_V [.null, .null, .int 0, .int 0, .int 0, .int 0] j
  | 0, _ => rfl
  | 1, _ => rfl
  | 2, _ => rfl
  | 3, _ => rfl
  | 4, _ => rfl
  | 5, _ => rfl
  | j + 6, h => absurd h (by omega)
theorem dv_Li : ∀ j, j < 9 → defaultValue (mTyF 1 j) = vp_V [.null, .null, .int 0, .int 0, .int 0, .int 0, .int 0, .int 0, .int 0] j
  | 0, _ => rfl
  | 1, _ => rfl
  | 2, _ => rfl
  | 3, _ => rfl
  | 4, _ => rfl
  | 5, _ => rfl
  | 6, _ => rfl
  | 7, _ => rfl
  | 8, _ => rfl
  | j + 9, h => absurd h (by omega)
theorem dv_Na : ∀ j, j < 1 → defaultValue (mTyF 2 j) = vp_V [.null] j
  | 0, _ => rfl
  | j + 1, h => absurd h (by omega)
theorem dv_Ne : ∀ j, j < 5 → defaultValue (mTyF 3 j) = vp_V [.null, .null, .null, .null, .int 0] j
  | 0, _ => rfl
  | 1, _ => rfl
  | 2, _ => rfl
  | 3, _ => rfl
  | 4, _ => rfl
  | j + 5, h => absurd h (by omega)
theorem dv_Pr : ∀ j, j < 9 → defaultValue (mTyF 4 j) = vp_V [.null, .null, .null, .null, .null, .null, .null, .null, .int 0] j
  | 0, _ => rfl
  | 1, _ => rfl
  | 2, _ => rfl
  | 3, _ => rfl
  | 4, _ => rfl
  | 5, _ => rfl
  | 6, _ => rfl
  | 7, _ => rfl
  | 8, _ => rfl
  | j + 9, h => absurd h (by omega)
theorem dv_Sh : ∀ j, j < 7 → defaultValue (mTyF 5 j) = vp_V [.null, .null, .null, .null, .null, .null, .int 0] j
  | 0, _ => rfl
  | 1, _ => rfl
  | 2, _ => rfl
  | 3, _ => rfl
  | 4, _ => rfl
  | 5, _ => rfl
  | 6, _ => rfl
  | j + 7, h => absurd h (by omega)
theorem dv_Te : ∀ j, j < 2 → defaultValue (mTyF 6 j) = vp_V [.null, .null] j
  | 0, _ => rfl
  | 1, _ => rfl
  | j + 2, h => absurd h (by omega)
theorem dv_To : ∀ j, j < 11 → defaultValue (mTyF 7 j) = vp_V [.null, .null, .int 0, .int 0, .int 0, .int 0, .int 0, .int 0, .long 0, .int 0, .int 0] j
  | 0, _ => rfl
  | 1, _ => rfl
  | 2, _ => rfl
  | 3, _ => rfl
  | 4, _ => rfl
  | 5, _ => rfl
  | 6, _ => rfl
  | 7, _ => rfl
  | 8, _ => rfl
  | 9, _ => rfl
  | 10, _ => rfl
  | j + 11, h => absurd h (by omega)
theorem dv_Tw : ∀ j, j < 19 → defaultValue (mTyF 8 j) = vp_V [.null, .null, .null, .null, .null, .null, .null, .null, .null, .null, .null, .null, .null, .int 0, .int 0, .int 0, .int 0, .int 0, .int 0] j
  | 0, _ => rfl
  | 1, _ => rfl
  | 2, _ => rfl
  | 3, _ => rfl
  | 4, _ => rfl
  | 5, _ => rfl
  | 6, _ => rfl
  | 7, _ => rfl
  | 8, _ => rfl
  | 9, _ => rfl
  | 10, _ => rfl
  | 11, _ => rfl
  | 12, _ => rfl
  | 13, _ => rfl
  | 14, _ => rfl
  | 15, _ => rfl
  | 16, _ => rfl
  | 17, _ => rfl
  | 18, _ => rfl
  | j + 19, h => absurd h (by omega)
theorem dv_Tr : ∀ j, j < 3 → defaultValue (mTyF 9 j) = vp_V [.null, .null, .null] j
  | 0, _ => rfl
  | 1, _ => rfl
  | 2, _ => rfl
  | j + 3, h => absurd h (by omega)
theorem dv_Pb : ∀ j, j < 16 → defaultValue (mTyF 10 j) = vp_V [.null, .null, .null, .null, .null, .null, .null, .null, .null, .int 0, .int 0, .long 0, .long 0, .int 0, .int 0, .int 0] j
  | 0, _ => rfl
  | 1, _ => rfl
  | 2, _ => rfl
  | 3, _ => rfl
  | 4, _ => rfl
  | 5, _ => rfl
  | 6, _ => rfl
  | 7, _ => rfl
  | 8, _ => rfl
  | 9, _ => rfl
  | 10, _ => rfl
  | 11, _ => rfl
  | 12, _ => rfl
  | 13, _ => rfl
  | 14, _ => rfl
  | 15, _ => rfl
  | j + 16, h => absurd h (by omega)
theorem dv_Mo : ∀ j, j < 46 → defaultValue (mTyF 11 j) = vp_V [.int 0, .int 0, .long 0, .long 0, .null, .null, .null, .null, .int 0, .int 0, .int 0, .int 0, .int 0, .int 0, .int 0, .int 0, .int 0, .int 0, .int 0, .long 0, .null, .null, .null, .int 0, .int 0, .null, .null, .null, .int 0, .null, .null, .null, .null, .int 0, .null, .null, .null, .int 0, .int 0, .int 0, .int 0, .int 0, .int 0, .int 0, .int 0, .int 0] j
  | 0, _ => rfl
  | 1, _ => rfl
  | 2, _ => rfl
  | 3, _ => rfl
  | 4, _ => rfl
  | 5, _ => rfl
  | 6, _ => rfl
  | 7, _ => rfl
  | 8, _ => rfl
  | 9, _ => rfl
  | 10, _ => rfl
  | 11, _ => rfl
  | 12, _ => rfl
  | 13, _ => rfl
  | 14, _ => rfl
  | 15, _ => rfl
  | 16, _ => rfl
  | 17, _ => rfl
  | 18, _ => rfl
  | 19, _ => rfl
  | 20, _ => rfl
  | 21, _ => rfl
  | 22, _ => rfl
  | 23, _ => rfl
  | 24, _ => rfl
  | 25, _ => rfl
  | 26, _ => rfl
  | 27, _ => rfl
  | 28, _ => rfl
  | 29, _ => rfl
  | 30, _ => rfl
  | 31, _ => rfl
  | 32, _ => rfl
  | 33, _ => rfl
  | 34, _ => rfl
  | 35, _ => rfl
  | 36, _ => rfl
  | 37, _ => rfl
  | 38, _ => rfl
  | 39, _ => rfl
  | 40, _ => rfl
  | 41, _ => rfl
  | 42, _ => rfl
  | 43, _ => rfl
  | 44, _ => rfl
  | 45, _ => rfl
  | j + 46, h => absurd h (by omega)
def mI_Te : mM := (yX6_init, cX6_init, 1, none, 6)
def blkTe (ad : Nat → Nat) (cA : Nat → ClassId) : va_W := (ad 0, .inr (6, [.ref (ad 1), .ref (ad 4)])) :: (([] : va_W) ++ blkTo (shN ad 1) (shN cA 1) ++ [(ad 4, .inl (cA 4, (5, .inl (fun _ => 0))))])
def tysTe (cA : Nat → ClassId) : List (ClassId × FieldType) := ([] : List (ClassId × FieldType)) ++ tysTo (shN cA 1) ++ [(cA 4, .int)]
theorem dI_Te_0 : decode cX6_init 0 = .ok (.aload_n 0, 1) := by decide +kernel
theorem dI_Te_1 : decode cX6_init 1 = .ok (.invokespecial 3, 3) := by decide +kernel
theorem dI_Te_4 : decode cX6_init 4 = .ok (.aload_n 0, 1) := by decide +kernel
theorem dI_Te_5 : decode cX6_init 5 = .ok (.new 9, 3) := by decide +kernel
theorem dI_Te_8 : decode cX6_init 8 = .ok (.dup, 1) := by decide +kernel
theorem dI_Te_9 : decode cX6_init 9 = .ok (.invokespecial 11, 3) := by decide +kernel
theorem dI_Te_12 : decode cX6_init 12 = .ok (.putfield 12, 3) := by decide +kernel
theorem dI_Te_15 : decode cX6_init 15 = .ok (.aload_n 0, 1) := by decide +kernel
theorem dI_Te_16 : decode cX6_init 16 = .ok (.iconst 5, 1) := by decide +kernel
theorem dI_Te_17 : decode cX6_init 17 = .ok (.newarray .int, 2) := by decide +kernel
theorem dI_Te_19 : decode cX6_init 19 = .ok (.putfield 20, 3) := by decide +kernel
theorem dI_Te_22 : decode cX6_init 22 = .ok (.return_, 1) := by decide +kernel
set_option maxHeartbeats 4000000 in
set_option maxRecDepth 100000 in
theorem cI_Te (l : Launch) (D : va_G) (h0 sz : Nat) (aS aV : Nat) (x : Value) (hx1 : x.category = 1) : Met l (mY mI_Te) (mW mI_Te) { frames := 6, cells := 4, slots := 944, locals := 384 } (va_Pc [.ref h0] (fun U => U.heap.size = sz ∧ va_P D vwCl [(h0, .inr (6, [.null, .null]))] U.heap ∧ va_K D vwCl [] U ∧ va_D (fun _ => True) [(h0, .inr (6, [.null, .null]))] ∧ kJ aS aV x (va_A [(h0, .inr (6, [.null, .null]))] sz) U U.heap ∧ vk_R RX7 19 kTx aS U)) (va_Qv (fun u : (Nat → Nat) × (Nat → ClassId) => u.1 0 = h0) (fun u t => va_P D vwCl (blkTe u.1 u.2) t.heap ∧ va_K D vwCl (tysTe u.2) t ∧ va_D (va_A [(h0, .inr (6, [.null, .null]))] sz) (blkTe u.1 u.2)) (va_A [(h0, .inr (6, [.null, .null]))] sz)) 4 944 (va_A [(h0, .inr (6, [.null, .null]))] sz) := by
  refine Met.ofW (cc := cX6_init) (maxL := 1) (ret := none) (by decide) rfl ?_
  intro p e s m args below meth c s₁ B hml hv
  obtain ⟨rfl, hsz, hP, hK, hD0, hJ, hR⟩ := hv
  have hx := B.exec
  have hb := B.bytes
  have hr := B.returns
  have hts := atoms_spec (ws := mW mI_Te) B.pre
  have hts2 : ∀ w ∈ mTB, w.before #[Value.ref h0] s = true := fun w hw => hts w (List.mem_cons_of_mem _ hw)
  have hown : s.vm.findClass RX6 = some m.cls := findClass_of_methodNamed B.named
  have hlocks := B.notSynchronized
  have hin : meth.name = "<init>" := (name_of_methodNamed B.named B.method).1
  subst hsz
  have hD := hD0.self (sz := s.heap.size)
  generalize hAe : va_A [(h0, .inr (6, [.null, .null]))] s.heap.size = A at hD hJ ⊢
  have hA : ∀ q : Nat, s.heap.size ≤ q → A q := fun q h => by rw [← hAe]; exact Or.inr h
  have hS : va_S A s.heap s.heap [] := va_S.rf
  have hl := lv_entry ([.ref h0]) (n := 1) (Nat.le_of_ble_eq_true rfl)
  rw [lg_entry_eq]
  generalize (lg_sl ([.ref h0]) ++ List.replicate (1 - (lg_sl ([.ref h0])).length) Slot.unset).toArray = ls at hl ⊢
  have hl : lv_has ls 1 [(0, .ref h0)] := hl
  obtain ⟨lay1, lay2, lay3, lay4⟩ := id (mLay (show vwCl[6]? = some (RX6, TX6, 2) from rfl))
  refine lv_aload_n hx hb dI_Te_0 rfl (lv_at hl 0 rfl) ?_
  refine W.objInit hx hb hown (hts (.methodLink RX6 3 objectInit) (List.mem_cons_of_mem _ (mTBm 1 54 rfl rfl))) (hts (.instanceMethod objectInit) (List.mem_cons_of_mem _ (mTBm 1 26 rfl rfl))) (hts (.code objectInit ⟨#[0xb1]⟩ 1 none) (List.mem_cons_of_mem _ (mTBm 1 27 rfl rfl))) rfl (by rw [hml]; exact hl.1) rfl dI_Te_1 (Nat.le_of_ble_eq_true rfl) (Nat.le_of_ble_eq_true rfl) ?_
  refine W.eq (g2 := F0 m 4 ls []) rfl ?_
  refine lv_aload_n hx hb dI_Te_4 rfl (lv_at hl 0 rfl) ?_
  refine va_new (D := D) (ci := 7) (fs := [.null, .null, .int 0, .int 0, .int 0, .int 0, .int 0, .int 0, .long 0, .int 0, .int 0]) (C := RX7) (T := TX7) (N := 11) hx hb hts2 (mLay (show vwCl[7]? = some (RX7, TX7, 11) from rfl)).1 (mTyF 7) (mLay (show vwCl[7]? = some (RX7, TX7, 11) from rfl)).2.2.1 hown (hts2 (.classLink RX6 9 RX7) (mTBm 1 55 rfl rfl)) (hts2 (.instantiable RX7 11) (mTBm 1 56 rfl rfl)) (hts2 (.initialized RX7) (mTBm 1 5 rfl rfl)) hK hP hD hS hA rfl dv_To (Nat.le_of_ble_eq_true rfl) (Nat.le_of_ble_eq_true rfl) dI_Te_5 (fun q1 H hP hD hS => ?_)
  refine lv_dup hx hb dI_Te_8 rfl ?_
  have hPc := kl_P hP
  have hDc := kl_D hD
  have hKc := hK.sub (tys' := []) [] rfl
  have hFc := kl_F hD hS hA
  refine va_callv (va_runI (b := q1) (As := []) (rest := .ref q1 :: [.ref h0]) ⟨hx, hb, hml, hown, hts2⟩ (cI_To l D q1 H.size aS aV x hx1) ⟨callB_of 0 hts2 (mGoodI (M' := mI_To) (fun _ h => h) (mTBm 1 59 rfl rfl)) rfl rfl rfl (hts2 (.initialized RX7) (mTBm 1 5 rfl rfl)) (hts2 (.methodLink RX6 11 (mY mI_To)) (mTBm 1 57 rfl rfl)) ⟨by decide +kernel, by decide +kernel, by decide +kernel⟩ ⟨Nat.le_of_ble_eq_true rfl, Nat.le_of_ble_eq_true rfl⟩, rfl, (hts2 (.instanceMethod (mY mI_To)) (mTBm 1 58 rfl rfl))⟩ ⟨fun a U g mk q => by obtain ⟨q0, q1, qP, qK, qD, qJ, qR⟩ := q; exact ⟨q0, q1, qP, va_K.moved (u := U) (U := U.calling g mk a) (Vm.Alike.refl U.vm) qK, qD, kJ.moved (u := U) (U := U.calling g mk a) (Vm.Alike.refl U.vm) qJ, vk_R.same (u := U) (U := U.calling g mk a) rfl qR⟩, fun U hU hW => ⟨rfl, by rw [hU], by rw [hU]; exact hPc, va_K.moved hW.alike hKc, hDc.weaken (fun _ _ _ _ => trivial), by rw [hU]; exact ((hJ.kept hS.2.1).narrow hFc).moved hW.alike, hR.warm hW⟩⟩ rfl rfl hl.1 rfl (lv_room (Nat.le_of_ble_eq_true rfl)) dI_Te_9 ⟨Nat.le_of_ble_eq_true rfl, Nat.le_of_ble_eq_true rfl⟩) hS (fun q _ h => hFc q h) hFc (fun u1 t H1 locs ht hvm hw hB hz1 hk1 hS => ?_)
  obtain ⟨hP1, hK1, hD1⟩ := hB
  rw [ht] at hP1
  have hK1 := va_K.moved hvm.symm hK1
  clear hPc hDc hKc
  subst hw
  obtain ⟨hP, hD⟩ := kl_J hP hD hk1 hFc hP1 hD1
  clear hFc hz1 hk1 hP1 hD1
  have hK := hK.app hK1
  generalize H1 = H at hP hS ⊢
  have hK : va_K D vwCl (([] : List (ClassId × FieldType)) ++ tysTo u1.2) s := hK
  have hP : va_P D vwCl ((h0, .inr (6, [.null, .null])) :: (([] : va_W) ++ blkTo u1.1 u1.2)) H := hP
  have hD : va_D A ((h0, .inr (6, [.null, .null])) :: (([] : va_W) ++ blkTo u1.1 u1.2)) := hD
  refine va_putF (D := D) (ci := 6) (v := .ref (u1.1 0)) (ty := (.object "PaperBread$Tokens")) (C := RX6) (T := TX6) (N := 2) hx hb hts2 lay1 _ lay3 lay4 hown hK hP hD hS 0 rfl rfl 0 (by decide) (hts2 (.fieldLink RX6 12 RX6 "tokens" "LPaperBread$Tokens;") (mTBm 1 150 rfl rfl)) (fun _ h9 => h9) rfl hin rfl (by decide +kernel) rfl rfl (Nat.le_of_ble_eq_true rfl) dI_Te_12 (fun H locs hP hD hS => ?_)
  have hP : va_P D vwCl ((h0, .inr (6, [.ref (u1.1 0), .null])) :: (([] : va_W) ++ blkTo u1.1 u1.2)) H := hP
  have hD : va_D A ((h0, .inr (6, [.ref (u1.1 0), .null])) :: (([] : va_W) ++ blkTo u1.1 u1.2)) := hD
  refine lv_aload_n hx hb dI_Te_15 rfl (lv_at hl 0 rfl) ?_
  refine lv_iconst hx hb dI_Te_16 (v := nI 5) rfl ?_
  refine va_newa (atype := .int) (a0 := (5, .inl (fun _ => 0))) (N' := 5) (ty := .int) hx hb (hts (.arrayClass .int) (List.mem_cons_of_mem _ (mTBm 1 48 rfl rfl))) rfl hK hP hD hS hA (ha_int 5) (nI_pos (by decide)) (nI_clamp (by decide)) (Nat.le_of_ble_eq_true rfl) (Nat.le_of_ble_eq_true rfl) (Nat.le_of_ble_eq_true rfl) dI_Te_17 (fun q2 c2 H hK hP hD hS => ?_)
  have hK : va_K D vwCl (([] : List (ClassId × FieldType)) ++ tysTo u1.2 ++ [(c2, .int)]) s := hK
  have hP : va_P D vwCl ((h0, .inr (6, [.ref (u1.1 0), .null])) :: (([] : va_W) ++ blkTo u1.1 u1.2 ++ [(q2, .inl (c2, (5, .inl (fun _ => 0))))])) H := hP
  have hD : va_D A ((h0, .inr (6, [.ref (u1.1 0), .null])) :: (([] : va_W) ++ blkTo u1.1 u1.2 ++ [(q2, .inl (c2, (5, .inl (fun _ => 0))))])) := hD
  refine va_putF (D := D) (ci := 6) (v := .ref q2) (ty := (.array .int)) (C := RX6) (T := TX6) (N := 2) hx hb hts2 lay1 _ lay3 lay4 hown hK hP hD hS 0 rfl rfl 1 (by decide) (hts2 (.fieldLink RX6 20 RX6 "facts" "[I") (mTBm 1 152 rfl rfl)) (fun _ h9 => h9) rfl hin rfl (by decide +kernel) rfl rfl (Nat.le_of_ble_eq_true rfl) dI_Te_19 (fun H locs hP hD hS => ?_)
  have hP : va_P D vwCl ((h0, .inr (6, [.ref (u1.1 0), .ref q2])) :: (([] : va_W) ++ blkTo u1.1 u1.2 ++ [(q2, .inl (c2, (5, .inl (fun _ => 0))))])) H := hP
  have hD : va_D A ((h0, .inr (6, [.ref (u1.1 0), .ref q2])) :: (([] : va_W) ++ blkTo u1.1 u1.2 ++ [(q2, .inl (c2, (5, .inl (fun _ => 0))))])) := hD
  refine W.widen (k := 4) (n := 944) (by decide) (by decide) ?_
  exact W.vret hx hb hr (fun t ht hW => ⟨⟨((jnN 1 (fun _ => h0) (jnN 3 u1.1 (jnN 1 (fun _ => q2) (fun _ => 0)))), (jnN 1 (fun _ => 0) (jnN 3 u1.2 (jnN 1 (fun _ => c2) (fun _ => 0))))), rfl, rfl, by rw [ht]; exact hP, va_K.moved hW.alike hK, hD⟩, hS.F ht⟩) hS.2.2 dI_Te_22
def mI_Li : mM := (yX1_init, cX1_init, 1, none, 1)
def blkLi (ad : Nat → Nat) (cA : Nat → ClassId) : va_W := (ad 0, .inr (1, [.ref (ad 1), .ref (ad 8), .int 0, .int 0, .int 0, .int 0, .int 0, .int 0, .int 0])) :: (([] : va_W) ++ blkSh (shN ad 1) (shN cA 1) ++ [(ad 8, .inl (cA 8, (60, .inl (fun _ => 0))))])
def tysLi (cA : Nat → ClassId) : List (ClassId × FieldType) := ([] : List (ClassId × FieldType)) ++ tysSh (shN cA 1) ++ [(cA 8, .int)]
theorem dI_Li_0 : decode cX1_init 0 = .ok (.aload_n 0, 1) := by decide +kernel
theorem dI_Li_1 : decode cX1_init 1 = .ok (.invokespecial 3, 3) := by decide +kernel
theorem dI_Li_4 : decode cX1_init 4 = .ok (.aload_n 0, 1) := by decide +kernel
theorem dI_Li_5 : decode cX1_init 5 = .ok (.new 9, 3) := by decide +kernel
theorem dI_Li_8 : decode cX1_init 8 = .ok (.dup, 1) := by decide +kernel
theorem dI_Li_9 : decode cX1_init 9 = .ok (.invokespecial 11, 3) := by decide +kernel
theorem dI_Li_12 : decode cX1_init 12 = .ok (.putfield 12, 3) := by decide +kernel
theorem dI_Li_15 : decode cX1_init 15 = .ok (.aload_n 0, 1) := by decide +kernel
theorem dI_Li_16 : decode cX1_init 16 = .ok (.bipush 60, 2) := by decide +kernel
theorem dI_Li_18 : decode cX1_init 18 = .ok (.newarray .int, 2) := by decide +kernel
theorem dI_Li_20 : decode cX1_init 20 = .ok (.putfield 20, 3) := by decide +kernel
theorem dI_Li_23 : decode cX1_init 23 = .ok (.return_, 1) := by decide +kernel
set_option maxHeartbeats 4000000 in
set_option maxRecDepth 100000 in
theorem cI_Li (l : Launch) (D : va_G) (h0 sz : Nat) : Met l (mY mI_Li) (mW mI_Li) { frames := 2, cells := 8, slots := 115, locals := 128 } (va_Pc [.ref h0] (fun U => U.heap.size = sz ∧ va_P D vwCl [(h0, .inr (1, [.null, .null, .int 0, .int 0, .int 0, .int 0, .int 0, .int 0, .int 0]))] U.heap ∧ va_K D vwCl [] U ∧ va_D (fun _ => True) [(h0, .inr (1, [.null, .null, .int 0, .int 0, .int 0, .int 0, .int 0, .int 0, .int 0]))] ∧ kN U)) (va_Qv (fun u : (Nat → Nat) × (Nat → ClassId) => u.1 0 = h0) (fun u t => va_P D vwCl (blkLi u.1 u.2) t.heap ∧ va_K D vwCl (tysLi u.2) t ∧ va_D (va_A [(h0, .inr (1, [.null, .null, .int 0, .int 0, .int 0, .int 0, .int 0, .int 0, .int 0]))] sz) (blkLi u.1 u.2)) (va_A [(h0, .inr (1, [.null, .null, .int 0, .int 0, .int 0, .int 0, .int 0, .int 0, .int 0]))] sz)) 8 115 (va_A [(h0, .inr (1, [.null, .null, .int 0, .int 0, .int 0, .int 0, .int 0, .int 0, .int 0]))] sz) := by
  refine Met.ofW (cc := cX1_init) (maxL := 1) (ret := none) (by decide) rfl ?_
  intro p e s m args below meth c s₁ B hml hv
  obtain ⟨rfl, hsz, hP, hK, hD0, hN⟩ := hv
  have hx := B.exec
  have hb := B.bytes
  have hr := B.returns
  have hts := atoms_spec (ws := mW mI_Li) B.pre
  have hts2 : ∀ w ∈ mTB, w.before #[Value.ref h0] s = true := fun w hw => hts w (List.mem_cons_of_mem _ hw)
  have hown : s.vm.findClass RX1 = some m.cls := findClass_of_methodNamed B.named
  have hlocks := B.notSynchronized
  have hin : meth.name = "<init>" := (name_of_methodNamed B.named B.method).1
  subst hsz
  have hD := hD0.self (sz := s.heap.size)
  generalize hAe : va_A [(h0, .inr (1, [.null, .null, .int 0, .int 0, .int 0, .int 0, .int 0, .int 0, .int 0]))] s.heap.size = A at hD ⊢
  have hA : ∀ q : Nat, s.heap.size ≤ q → A q := fun q h => by rw [← hAe]; exact Or.inr h
  have hS : va_S A s.heap s.heap [] := va_S.rf
  have hl := lv_entry ([.ref h0]) (n := 1) (Nat.le_of_ble_eq_true rfl)
  rw [lg_entry_eq]
  generalize (lg_sl ([.ref h0]) ++ List.replicate (1 - (lg_sl ([.ref h0])).length) Slot.unset).toArray = ls at hl ⊢
  have hl : lv_has ls 1 [(0, .ref h0)] := hl
  obtain ⟨lay1, lay2, lay3, lay4⟩ := id (mLay (show vwCl[1]? = some (RX1, TX1, 9) from rfl))
  refine lv_aload_n hx hb dI_Li_0 rfl (lv_at hl 0 rfl) ?_
  refine W.objInit hx hb hown (hts (.methodLink RX1 3 objectInit) (List.mem_cons_of_mem _ (mTBm 2 185 rfl rfl))) (hts (.instanceMethod objectInit) (List.mem_cons_of_mem _ (mTBm 1 26 rfl rfl))) (hts (.code objectInit ⟨#[0xb1]⟩ 1 none) (List.mem_cons_of_mem _ (mTBm 1 27 rfl rfl))) rfl (by rw [hml]; exact hl.1) rfl dI_Li_1 (Nat.le_of_ble_eq_true rfl) (Nat.le_of_ble_eq_true rfl) ?_
  refine W.eq (g2 := F0 m 4 ls []) rfl ?_
  refine lv_aload_n hx hb dI_Li_4 rfl (lv_at hl 0 rfl) ?_
  refine va_new (D := D) (ci := 5) (fs := [.null, .null, .null, .null, .null, .null, .int 0]) (C := RX5) (T := TX5) (N := 7) hx hb hts2 (mLay (show vwCl[5]? = some (RX5, TX5, 7) from rfl)).1 (mTyF 5) (mLay (show vwCl[5]? = some (RX5, TX5, 7) from rfl)).2.2.1 hown (hts2 (.classLink RX1 9 RX5) (mTBm 2 186 rfl rfl)) (hts2 (.instantiable RX5 7) (mTBm 2 120 rfl rfl)) (hts2 (.initialized RX5) (mTBm 1 14 rfl rfl)) hK hP hD hS hA rfl dv_Sh (Nat.le_of_ble_eq_true rfl) (Nat.le_of_ble_eq_true rfl) dI_Li_5 (fun q1 H hP hD hS => ?_)
  refine lv_dup hx hb dI_Li_8 rfl ?_
  have hPc := kl_P hP
  have hDc := kl_D hD
  have hKc := hK.sub (tys' := []) [] rfl
  have hFc := kl_F hD hS hA
  refine va_callv (va_runIN (b := q1) (As := []) (rest := .ref q1 :: [.ref h0]) ⟨hx, hb, hml, hown, hts2⟩ (cI_Sh l D q1 H.size) ⟨va_cnB (host := "PaperBread") 0 hts2 (mGoodI (M' := mI_Sh) (fun _ h => h) (mTBm 2 123 rfl rfl)) rfl rfl rfl (hN (.methodLinkNest RX1 11 (mY mI_Sh) "PaperBread") (List.mem_of_getElem? (i := 8) rfl)) (hts2 (.initialized RX5) (mTBm 1 14 rfl rfl)) ⟨by decide +kernel, by decide +kernel, by decide +kernel⟩ ⟨Nat.le_of_ble_eq_true rfl, Nat.le_of_ble_eq_true rfl⟩, rfl, (hts2 (.instanceMethod (mY mI_Sh)) (mTBm 2 122 rfl rfl))⟩ ⟨fun a U g mk q => by obtain ⟨q0, q1, qP, qK, qD⟩ := q; exact ⟨q0, q1, qP, va_K.moved (u := U) (U := U.calling g mk a) (Vm.Alike.refl U.vm) qK, qD⟩, fun U hU hW => ⟨rfl, by rw [hU], by rw [hU]; exact hPc, va_K.moved hW.alike hKc, hDc.weaken (fun _ _ _ _ => trivial)⟩⟩ rfl rfl hl.1 rfl (lv_room (Nat.le_of_ble_eq_true rfl)) dI_Li_9 ⟨Nat.le_of_ble_eq_true rfl, Nat.le_of_ble_eq_true rfl⟩) hS (fun q _ h => hFc q h) hFc (fun u1 t H1 locs ht hvm hw hB hz1 hk1 hS => ?_)
  obtain ⟨hP1, hK1, hD1⟩ := hB
  rw [ht] at hP1
  have hK1 := va_K.moved hvm.symm hK1
  clear hPc hDc hKc
  subst hw
  obtain ⟨hP, hD⟩ := kl_J hP hD hk1 hFc hP1 hD1
  clear hFc hz1 hk1 hP1 hD1
  have hK := hK.app hK1
  generalize H1 = H at hP hS ⊢
  have hK : va_K D vwCl (([] : List (ClassId × FieldType)) ++ tysSh u1.2) s := hK
  have hP : va_P D vwCl ((h0, .inr (1, [.null, .null, .int 0, .int 0, .int 0, .int 0, .int 0, .int 0, .int 0])) :: (([] : va_W) ++ blkSh u1.1 u1.2)) H := hP
  have hD : va_D A ((h0, .inr (1, [.null, .null, .int 0, .int 0, .int 0, .int 0, .int 0, .int 0, .int 0])) :: (([] : va_W) ++ blkSh u1.1 u1.2)) := hD
  refine va_putF (D := D) (ci := 1) (v := .ref (u1.1 0)) (ty := (.object "PaperBread$Share")) (C := RX1) (T := TX1) (N := 9) hx hb hts2 lay1 _ lay3 lay4 hown hK hP hD hS 0 rfl rfl 0 (by decide) (hts2 (.fieldLink RX1 12 RX1 "share" "LPaperBread$Share;") (mTBm 2 188 rfl rfl)) (fun _ h9 => h9) rfl hin rfl (by decide +kernel) rfl rfl (Nat.le_of_ble_eq_true rfl) dI_Li_12 (fun H locs hP hD hS => ?_)
  have hP : va_P D vwCl ((h0, .inr (1, [.ref (u1.1 0), .null, .int 0, .int 0, .int 0, .int 0, .int 0, .int 0, .int 0])) :: (([] : va_W) ++ blkSh u1.1 u1.2)) H := hP
  have hD : va_D A ((h0, .inr (1, [.ref (u1.1 0), .null, .int 0, .int 0, .int 0, .int 0, .int 0, .int 0, .int 0])) :: (([] : va_W) ++ blkSh u1.1 u1.2)) := hD
  refine lv_aload_n hx hb dI_Li_15 rfl (lv_at hl 0 rfl) ?_
  refine lv_bipush hx hb dI_Li_16 (v := nI 60) rfl ?_
  refine va_newa (atype := .int) (a0 := (60, .inl (fun _ => 0))) (N' := 60) (ty := .int) hx hb (hts (.arrayClass .int) (List.mem_cons_of_mem _ (mTBm 1 48 rfl rfl))) rfl hK hP hD hS hA (ha_int 60) (nI_pos (by decide)) (nI_clamp (by decide)) (Nat.le_of_ble_eq_true rfl) (Nat.le_of_ble_eq_true rfl) (Nat.le_of_ble_eq_true rfl) dI_Li_18 (fun q2 c2 H hK hP hD hS => ?_)
  have hK : va_K D vwCl (([] : List (ClassId × FieldType)) ++ tysSh u1.2 ++ [(c2, .int)]) s := hK
  have hP : va_P D vwCl ((h0, .inr (1, [.ref (u1.1 0), .null, .int 0, .int 0, .int 0, .int 0, .int 0, .int 0, .int 0])) :: (([] : va_W) ++ blkSh u1.1 u1.2 ++ [(q2, .inl (c2, (60, .inl (fun _ => 0))))])) H := hP
  have hD : va_D A ((h0, .inr (1, [.ref (u1.1 0), .null, .int 0, .int 0, .int 0, .int 0, .int 0, .int 0, .int 0])) :: (([] : va_W) ++ blkSh u1.1 u1.2 ++ [(q2, .inl (c2, (60, .inl (fun _ => 0))))])) := hD
  refine va_putF (D := D) (ci := 1) (v := .ref q2) (ty := (.array .int)) (C := RX1) (T := TX1) (N := 9) hx hb hts2 lay1 _ lay3 lay4 hown hK hP hD hS 0 rfl rfl 1 (by decide) (hts2 (.fieldLink RX1 20 RX1 "rounds" "[I") (mTBm 2 189 rfl rfl)) (fun _ h9 => h9) rfl hin rfl (by decide +kernel) rfl rfl (Nat.le_of_ble_eq_true rfl) dI_Li_20 (fun H locs hP hD hS => ?_)
  have hP : va_P D vwCl ((h0, .inr (1, [.ref (u1.1 0), .ref q2, .int 0, .int 0, .int 0, .int 0, .int 0, .int 0, .int 0])) :: (([] : va_W) ++ blkSh u1.1 u1.2 ++ [(q2, .inl (c2, (60, .inl (fun _ => 0))))])) H := hP
  have hD : va_D A ((h0, .inr (1, [.ref (u1.1 0), .ref q2, .int 0, .int 0, .int 0, .int 0, .int 0, .int 0, .int 0])) :: (([] : va_W) ++ blkSh u1.1 u1.2 ++ [(q2, .inl (c2, (60, .inl (fun _ => 0))))])) := hD
  refine W.widen (k := 8) (n := 115) (by decide) (by decide) ?_
  exact W.vret hx hb hr (fun t ht hW => ⟨⟨((jnN 1 (fun _ => h0) (jnN 7 u1.1 (jnN 1 (fun _ => q2) (fun _ => 0)))), (jnN 1 (fun _ => 0) (jnN 7 u1.2 (jnN 1 (fun _ => c2) (fun _ => 0))))), rfl, rfl, by rw [ht]; exact hP, va_K.moved hW.alike hK, hD⟩, hS.F ht⟩) hS.2.2 dI_Li_23
def mI_Tw : mM := (yX8_init, cX8_init, 1, none, 8)
def blkTw (ad : Nat → Nat) (cA : Nat → ClassId) : va_W := (ad 0, .inr (8, [.ref (ad 1), .ref (ad 3), .ref (ad 12), .ref (ad 15), .ref (ad 16), .ref (ad 17), .ref (ad 18), .ref (ad 19), .ref (ad 20), .ref (ad 21), .ref (ad 22), .ref (ad 23), .ref (ad 24), .int 0, .int 0, .int 0, .int 0, .int 0, .int 0])) :: (([] : va_W) ++ blkNa (shN ad 1) (shN cA 1) ++ blkPr (shN ad 3) (shN cA 3) ++ blkDa (shN ad 12) (shN cA 12) ++ [(ad 15, .inl (cA 15, (8, .inl (fun _ => 0))))] ++ [(ad 16, .inl (cA 16, (8, .inl (fun _ => 0))))] ++ [(ad 17, .inl (cA 17, (8, .inl (fun _ => 0))))] ++ [(ad 18, .inl (cA 18, (4, .inl (fun _ => 0))))] ++ [(ad 19, .inl (cA 19, (8, .inl (fun _ => 0))))] ++ [(ad 20, .inl (cA 20, (8, .inl (fun _ => 0))))] ++ [(ad 21, .inl (cA 21, (8, .inl (fun _ => 0))))] ++ [(ad 22, .inl (cA 22, (8, .inl (fun _ => 0))))] ++ [(ad 23, .inl (cA 23, (8, .inl (fun _ => 0))))] ++ [(ad 24, .inl (cA 24, (8, .inl (fun _ => 0))))])
def tysTw (cA : Nat → ClassId) : List (ClassId × FieldType) := ([] : List (ClassId × FieldType)) ++ tysNa (shN cA 1) ++ tysPr (shN cA 3) ++ tysDa (shN cA 12) ++ [(cA 15, .int)] ++ [(cA 16, .int)] ++ [(cA 17, .int)] ++ [(cA 18, .int)] ++ [(cA 19, .int)] ++ [(cA 20, .int)] ++ [(cA 21, .int)] ++ [(cA 22, .int)] ++ [(cA 23, .int)] ++ [(cA 24, .int)]
theorem dI_Tw_0 : decode cX8_init 0 = .ok (.aload_n 0, 1) := by decide +kernel
theorem dI_Tw_1 : decode cX8_init 1 = .ok (.invokespecial 3, 3) := by decide +kernel
theorem dI_Tw_4 : decode cX8_init 4 = .ok (.aload_n 0, 1) := by decide +kernel
theorem dI_Tw_5 : decode cX8_init 5 = .ok (.new 9, 3) := by decide +kernel
theorem dI_Tw_8 : decode cX8_init 8 = .ok (.dup, 1) := by decide +kernel
theorem dI_Tw_9 : decode cX8_init 9 = .ok (.invokespecial 11, 3) := by decide +kernel
theorem dI_Tw_12 : decode cX8_init 12 = .ok (.putfield 12, 3) := by decide +kernel
theorem dI_Tw_15 : decode cX8_init 15 = .ok (.aload_n 0, 1) := by decide +kernel
theorem dI_Tw_16 : decode cX8_init 16 = .ok (.new 18, 3) := by decide +kernel
theorem dI_Tw_19 : decode cX8_init 19 = .ok (.dup, 1) := by decide +kernel
theorem dI_Tw_20 : decode cX8_init 20 = .ok (.invokespecial 20, 3) := by decide +kernel
theorem dI_Tw_23 : decode cX8_init 23 = .ok (.putfield 21, 3) := by decide +kernel
theorem dI_Tw_26 : decode cX8_init 26 = .ok (.aload_n 0, 1) := by decide +kernel
theorem dI_Tw_27 : decode cX8_init 27 = .ok (.new 25, 3) := by decide +kernel
theorem dI_Tw_30 : decode cX8_init 30 = .ok (.dup, 1) := by decide +kernel
theorem dI_Tw_31 : decode cX8_init 31 = .ok (.invokespecial 27, 3) := by decide +kernel
theorem dI_Tw_34 : decode cX8_init 34 = .ok (.putfield 28, 3) := by decide +kernel
theorem dI_Tw_37 : decode cX8_init 37 = .ok (.aload_n 0, 1) := by decide +kernel
theorem dI_Tw_38 : decode cX8_init 38 = .ok (.bipush 8, 2) := by decide +kernel
theorem dI_Tw_40 : decode cX8_init 40 = .ok (.newarray .int, 2) := by decide +kernel
theorem dI_Tw_42 : decode cX8_init 42 = .ok (.putfield 32, 3) := by decide +kernel
theorem dI_Tw_45 : decode cX8_init 45 = .ok (.aload_n 0, 1) := by decide +kernel
theorem dI_Tw_46 : decode cX8_init 46 = .ok (.bipush 8, 2) := by decide +kernel
theorem dI_Tw_48 : decode cX8_init 48 = .ok (.newarray .int, 2) := by decide +kernel
theorem dI_Tw_50 : decode cX8_init 50 = .ok (.putfield 36, 3) := by decide +kernel
theorem dI_Tw_53 : decode cX8_init 53 = .ok (.aload_n 0, 1) := by decide +kernel
theorem dI_Tw_54 : decode cX8_init 54 = .ok (.bipush 8, 2) := by decide +kernel
theorem dI_Tw_56 : decode cX8_init 56 = .ok (.newarray .int, 2) := by decide +kernel
theorem dI_Tw_58 : decode cX8_init 58 = .ok (.putfield 39, 3) := by decide +kernel
theorem dI_Tw_61 : decode cX8_init 61 = .ok (.aload_n 0, 1) := by decide +kernel
theorem dI_Tw_62 : decode cX8_init 62 = .ok (.iconst 4, 1) := by decide +kernel
theorem dI_Tw_63 : decode cX8_init 63 = .ok (.newarray .int, 2) := by decide +kernel
theorem dI_Tw_65 : decode cX8_init 65 = .ok (.putfield 42, 3) := by decide +kernel
theorem dI_Tw_68 : decode cX8_init 68 = .ok (.aload_n 0, 1) := by decide +kernel
theorem dI_Tw_69 : decode cX8_init 69 = .ok (.bipush 8, 2) := by decide +kernel
theorem dI_Tw_71 : decode cX8_init 71 = .ok (.newarray .int, 2) := by decide +kernel
theorem dI_Tw_73 : decode cX8_init 73 = .ok (.putfield 45, 3) := by decide +kernel
theorem dI_Tw_76 : decode cX8_init 76 = .ok (.aload_n 0, 1) := by decide +kernel
theorem dI_Tw_77 : decode cX8_init 77 = .ok (.bipush 8, 2) := by decide +kernel
theorem dI_Tw_79 : decode cX8_init 79 = .ok (.newarray .int, 2) := by decide +kernel
theorem dI_Tw_81 : decode cX8_init 81 = .ok (.putfield 48, 3) := by decide +kernel
theorem dI_Tw_84 : decode cX8_init 84 = .ok (.aload_n 0, 1) := by decide +kernel
theorem dI_Tw_85 : decode cX8_init 85 = .ok (.bipush 8, 2) := by decide +kernel
theorem dI_Tw_87 : decode cX8_init 87 = .ok (.newarray .int, 2) := by decide +kernel
theorem dI_Tw_89 : decode cX8_init 89 = .ok (.putfield 51, 3) := by decide +kernel
theorem dI_Tw_92 : decode cX8_init 92 = .ok (.aload_n 0, 1) := by decide +kernel
theorem dI_Tw_93 : decode cX8_init 93 = .ok (.bipush 8, 2) := by decide +kernel
theorem dI_Tw_95 : decode cX8_init 95 = .ok (.newarray .int, 2) := by decide +kernel
theorem dI_Tw_97 : decode cX8_init 97 = .ok (.putfield 54, 3) := by decide +kernel
theorem dI_Tw_100 : decode cX8_init 100 = .ok (.aload_n 0, 1) := by decide +kernel
theorem dI_Tw_101 : decode cX8_init 101 = .ok (.bipush 8, 2) := by decide +kernel
theorem dI_Tw_103 : decode cX8_init 103 = .ok (.newarray .int, 2) := by decide +kernel
theorem dI_Tw_105 : decode cX8_init 105 = .ok (.putfield 57, 3) := by decide +kernel
theorem dI_Tw_108 : decode cX8_init 108 = .ok (.aload_n 0, 1) := by decide +kernel
theorem dI_Tw_109 : decode cX8_init 109 = .ok (.bipush 8, 2) := by decide +kernel
theorem dI_Tw_111 : decode cX8_init 111 = .ok (.newarray .int, 2) := by decide +kernel
theorem dI_Tw_113 : decode cX8_init 113 = .ok (.putfield 60, 3) := by decide +kernel
theorem dI_Tw_116 : decode cX8_init 116 = .ok (.return_, 1) := by decide +kernel
set_option maxHeartbeats 4000000 in
set_option maxRecDepth 100000 in
theorem cI_Tw (l : Launch) (D : va_G) (h0 sz : Nat) : Met l (mY mI_Tw) (mW mI_Tw) { frames := 2, cells := 24, slots := 823, locals := 128 } (va_Pc [.ref h0] (fun U => U.heap.size = sz ∧ va_P D vwCl [(h0, .inr (8, [.null, .null, .null, .null, .null, .null, .null, .null, .null, .null, .null, .null, .null, .int 0, .int 0, .int 0, .int 0, .int 0, .int 0]))] U.heap ∧ va_K D vwCl [] U ∧ va_D (fun _ => True) [(h0, .inr (8, [.null, .null, .null, .null, .null, .null, .null, .null, .null, .null, .null, .null, .null, .int 0, .int 0, .int 0, .int 0, .int 0, .int 0]))] ∧ kN U)) (va_Qv (fun u : (Nat → Nat) × (Nat → ClassId) => u.1 0 = h0) (fun u t => va_P D vwCl (blkTw u.1 u.2) t.heap ∧ va_K D vwCl (tysTw u.2) t ∧ va_D (va_A [(h0, .inr (8, [.null, .null, .null, .null, .null, .null, .null, .null, .null, .null, .null, .null, .null, .int 0, .int 0, .int 0, .int 0, .int 0, .int 0]))] sz) (blkTw u.1 u.2)) (va_A [(h0, .inr (8, [.null, .null, .null, .null, .null, .null, .null, .null, .null, .null, .null, .null, .null, .int 0, .int 0, .int 0, .int 0, .int 0, .int 0]))] sz)) 24 823 (va_A [(h0, .inr (8, [.null, .null, .null, .null, .null, .null, .null, .null, .null, .null, .null, .null, .null, .int 0, .int 0, .int 0, .int 0, .int 0, .int 0]))] sz) := by
  refine Met.ofW (cc := cX8_init) (maxL := 1) (ret := none) (by decide) rfl ?_
  intro p e s m args below meth c s₁ B hml hv
  obtain ⟨rfl, hsz, hP, hK, hD0, hN⟩ := hv
  have hx := B.exec
  have hb := B.bytes
  have hr := B.returns
  have hts := atoms_spec (ws := mW mI_Tw) B.pre
  have hts2 : ∀ w ∈ mTB, w.before #[Value.ref h0] s = true := fun w hw => hts w (List.mem_cons_of_mem _ hw)
  have hown : s.vm.findClass RX8 = some m.cls := findClass_of_methodNamed B.named
  have hlocks := B.notSynchronized
  have hin : meth.name = "<init>" := (name_of_methodNamed B.named B.method).1
  subst hsz
  have hD := hD0.self (sz := s.heap.size)
  generalize hAe : va_A [(h0, .inr (8, [.null, .null, .null, .null, .null, .null, .null, .null, .null, .null, .null, .null, .null, .int 0, .int 0, .int 0, .int 0, .int 0, .int 0]))] s.heap.size = A at hD ⊢
  have hA : ∀ q : Nat, s.heap.size ≤ q → A q := fun q h => by rw [← hAe]; exact Or.inr h
  have hS : va_S A s.heap s.heap [] := va_S.rf
  have hl := lv_entry ([.ref h0]) (n := 1) (Nat.le_of_ble_eq_true rfl)
  rw [lg_entry_eq]
  generalize (lg_sl ([.ref h0]) ++ List.replicate (1 - (lg_sl ([.ref h0])).length) Slot.unset).toArray = ls at hl ⊢
  have hl : lv_has ls 1 [(0, .ref h0)] := hl
  obtain ⟨lay1, lay2, lay3, lay4⟩ := id (mLay (show vwCl[8]? = some (RX8, TX8, 19) from rfl))
  refine lv_aload_n hx hb dI_Tw_0 rfl (lv_at hl 0 rfl) ?_
  refine W.objInit hx hb hown (hts (.methodLink RX8 3 objectInit) (List.mem_cons_of_mem _ (mTBm 1 163 rfl rfl))) (hts (.instanceMethod objectInit) (List.mem_cons_of_mem _ (mTBm 1 26 rfl rfl))) (hts (.code objectInit ⟨#[0xb1]⟩ 1 none) (List.mem_cons_of_mem _ (mTBm 1 27 rfl rfl))) rfl (by rw [hml]; exact hl.1) rfl dI_Tw_1 (Nat.le_of_ble_eq_true rfl) (Nat.le_of_ble_eq_true rfl) ?_
  refine W.eq (g2 := F0 m 4 ls []) rfl ?_
  refine lv_aload_n hx hb dI_Tw_4 rfl (lv_at hl 0 rfl) ?_
  refine va_new (D := D) (ci := 2) (fs := [.null]) (C := RX2) (T := TX2) (N := 1) hx hb hts2 (mLay (show vwCl[2]? = some (RX2, TX2, 1) from rfl)).1 (mTyF 2) (mLay (show vwCl[2]? = some (RX2, TX2, 1) from rfl)).2.2.1 hown (hts2 (.classLink RX8 9 RX2) (mTBm 1 164 rfl rfl)) (hts2 (.instantiable RX2 1) (mTBm 1 165 rfl rfl)) (hts2 (.initialized RX2) (mTBm 1 11 rfl rfl)) hK hP hD hS hA rfl dv_Na (Nat.le_of_ble_eq_true rfl) (Nat.le_of_ble_eq_true rfl) dI_Tw_5 (fun q1 H hP hD hS => ?_)
  refine lv_dup hx hb dI_Tw_8 rfl ?_
  have hPc := kl_P hP
  have hDc := kl_D hD
  have hKc := hK.sub (tys' := []) [] rfl
  have hFc := kl_F hD hS hA
  refine va_callv (va_runIN (b := q1) (As := []) (rest := .ref q1 :: [.ref h0]) ⟨hx, hb, hml, hown, hts2⟩ (cI_Na l D q1 H.size) ⟨va_cnB (host := "PaperBread") 0 hts2 (mGoodI (M' := mI_Na) (fun _ h => h) (mTBm 1 168 rfl rfl)) rfl rfl rfl (hN (.methodLinkNest RX8 11 (mY mI_Na) "PaperBread") (List.mem_of_getElem? (i := 2) rfl)) (hts2 (.initialized RX2) (mTBm 1 11 rfl rfl)) ⟨by decide +kernel, by decide +kernel, by decide +kernel⟩ ⟨Nat.le_of_ble_eq_true rfl, Nat.le_of_ble_eq_true rfl⟩, rfl, (hts2 (.instanceMethod (mY mI_Na)) (mTBm 1 167 rfl rfl))⟩ ⟨fun a U g mk q => by obtain ⟨q0, q1, qP, qK, qD⟩ := q; exact ⟨q0, q1, qP, va_K.moved (u := U) (U := U.calling g mk a) (Vm.Alike.refl U.vm) qK, qD⟩, fun U hU hW => ⟨rfl, by rw [hU], by rw [hU]; exact hPc, va_K.moved hW.alike hKc, hDc.weaken (fun _ _ _ _ => trivial)⟩⟩ rfl rfl hl.1 rfl (lv_room (Nat.le_of_ble_eq_true rfl)) dI_Tw_9 ⟨Nat.le_of_ble_eq_true rfl, Nat.le_of_ble_eq_true rfl⟩) hS (fun q _ h => hFc q h) hFc (fun u1 t H1 locs ht hvm hw hB hz1 hk1 hS => ?_)
  obtain ⟨hP1, hK1, hD1⟩ := hB
  rw [ht] at hP1
  have hK1 := va_K.moved hvm.symm hK1
  clear hPc hDc hKc
  subst hw
  obtain ⟨hP, hD⟩ := kl_J hP hD hk1 hFc hP1 hD1
  clear hFc hz1 hk1 hP1 hD1
  have hK := hK.app hK1
  generalize H1 = H at hP hS ⊢
  have hK : va_K D vwCl (([] : List (ClassId × FieldType)) ++ tysNa u1.2) s := hK
  have hP : va_P D vwCl ((h0, .inr (8, [.null, .null, .null, .null, .null, .null, .null, .null, .null, .null, .null, .null, .null, .int 0, .int 0, .int 0, .int 0, .int 0, .int 0])) :: (([] : va_W) ++ blkNa u1.1 u1.2)) H := hP
  have hD : va_D A ((h0, .inr (8, [.null, .null, .null, .null, .null, .null, .null, .null, .null, .null, .null, .null, .null, .int 0, .int 0, .int 0, .int 0, .int 0, .int 0])) :: (([] : va_W) ++ blkNa u1.1 u1.2)) := hD
  refine va_putF (D := D) (ci := 8) (v := .ref (u1.1 0)) (ty := (.object "PaperBread$Names")) (C := RX8) (T := TX8) (N := 19) hx hb hts2 lay1 _ lay3 lay4 hown hK hP hD hS 0 rfl rfl 0 (by decide) (hts2 (.fieldLink RX8 12 RX8 "names" "LPaperBread$Names;") (mTBm 2 25 rfl rfl)) (fun _ h9 => h9) rfl hin rfl (by decide +kernel) rfl rfl (Nat.le_of_ble_eq_true rfl) dI_Tw_12 (fun H locs hP hD hS => ?_)
  have hP : va_P D vwCl ((h0, .inr (8, [.ref (u1.1 0), .null, .null, .null, .null, .null, .null, .null, .null, .null, .null, .null, .null, .int 0, .int 0, .int 0, .int 0, .int 0, .int 0])) :: (([] : va_W) ++ blkNa u1.1 u1.2)) H := hP
  have hD : va_D A ((h0, .inr (8, [.ref (u1.1 0), .null, .null, .null, .null, .null, .null, .null, .null, .null, .null, .null, .null, .int 0, .int 0, .int 0, .int 0, .int 0, .int 0])) :: (([] : va_W) ++ blkNa u1.1 u1.2)) := hD
  refine lv_aload_n hx hb dI_Tw_15 rfl (lv_at hl 0 rfl) ?_
  refine va_new (D := D) (ci := 4) (fs := [.null, .null, .null, .null, .null, .null, .null, .null, .int 0]) (C := RX4) (T := TX4) (N := 9) hx hb hts2 (mLay (show vwCl[4]? = some (RX4, TX4, 9) from rfl)).1 (mTyF 4) (mLay (show vwCl[4]? = some (RX4, TX4, 9) from rfl)).2.2.1 hown (hts2 (.classLink RX8 18 RX4) (mTBm 1 174 rfl rfl)) (hts2 (.instantiable RX4 9) (mTBm 1 175 rfl rfl)) (hts2 (.initialized RX4) (mTBm 1 12 rfl rfl)) hK hP hD hS hA rfl dv_Pr (Nat.le_of_ble_eq_true rfl) (Nat.le_of_ble_eq_true rfl) dI_Tw_16 (fun q2 H hP hD hS => ?_)
  refine lv_dup hx hb dI_Tw_19 rfl ?_
  have hPc := kl_P hP
  have hDc := kl_D hD
  have hKc := hK.sub (tys' := []) [] rfl
  have hFc := kl_F hD hS hA
  refine va_callv (va_runIN (b := q2) (As := []) (rest := .ref q2 :: [.ref h0]) ⟨hx, hb, hml, hown, hts2⟩ (cI_Pr l D q2 H.size) ⟨va_cnB (host := "PaperBread") 0 hts2 (mGoodI (M' := mI_Pr) (fun _ h => h) (mTBm 1 178 rfl rfl)) rfl rfl rfl (hN (.methodLinkNest RX8 20 (mY mI_Pr) "PaperBread") (List.mem_of_getElem? (i := 3) rfl)) (hts2 (.initialized RX4) (mTBm 1 12 rfl rfl)) ⟨by decide +kernel, by decide +kernel, by decide +kernel⟩ ⟨Nat.le_of_ble_eq_true rfl, Nat.le_of_ble_eq_true rfl⟩, rfl, (hts2 (.instanceMethod (mY mI_Pr)) (mTBm 1 177 rfl rfl))⟩ ⟨fun a U g mk q => by obtain ⟨q0, q1, qP, qK, qD⟩ := q; exact ⟨q0, q1, qP, va_K.moved (u := U) (U := U.calling g mk a) (Vm.Alike.refl U.vm) qK, qD⟩, fun U hU hW => ⟨rfl, by rw [hU], by rw [hU]; exact hPc, va_K.moved hW.alike hKc, hDc.weaken (fun _ _ _ _ => trivial)⟩⟩ rfl rfl hl.1 rfl (lv_room (Nat.le_of_ble_eq_true rfl)) dI_Tw_20 ⟨Nat.le_of_ble_eq_true rfl, Nat.le_of_ble_eq_true rfl⟩) hS (fun q _ h => hFc q h) hFc (fun u2 t H1 locs ht hvm hw hB hz1 hk1 hS => ?_)
  obtain ⟨hP1, hK1, hD1⟩ := hB
  rw [ht] at hP1
  have hK1 := va_K.moved hvm.symm hK1
  clear hPc hDc hKc
  subst hw
  obtain ⟨hP, hD⟩ := kl_J hP hD hk1 hFc hP1 hD1
  clear hFc hz1 hk1 hP1 hD1
  have hK := hK.app hK1
  generalize H1 = H at hP hS ⊢
  have hK : va_K D vwCl (([] : List (ClassId × FieldType)) ++ tysNa u1.2 ++ tysPr u2.2) s := hK
  have hP : va_P D vwCl ((h0, .inr (8, [.ref (u1.1 0), .null, .null, .null, .null, .null, .null, .null, .null, .null, .null, .null, .null, .int 0, .int 0, .int 0, .int 0, .int 0, .int 0])) :: (([] : va_W) ++ blkNa u1.1 u1.2 ++ blkPr u2.1 u2.2)) H := hP
  have hD : va_D A ((h0, .inr (8, [.ref (u1.1 0), .null, .null, .null, .null, .null, .null, .null, .null, .null, .null, .null, .null, .int 0, .int 0, .int 0, .int 0, .int 0, .int 0])) :: (([] : va_W) ++ blkNa u1.1 u1.2 ++ blkPr u2.1 u2.2)) := hD
  refine va_putF (D := D) (ci := 8) (v := .ref (u2.1 0)) (ty := (.object "PaperBread$Promises")) (C := RX8) (T := TX8) (N := 19) hx hb hts2 lay1 _ lay3 lay4 hown hK hP hD hS 0 rfl rfl 1 (by decide) (hts2 (.fieldLink RX8 21 RX8 "promises" "LPaperBread$Promises;") (mTBm 2 28 rfl rfl)) (fun _ h9 => h9) rfl hin rfl (by decide +kernel) rfl rfl (Nat.le_of_ble_eq_true rfl) dI_Tw_23 (fun H locs hP hD hS => ?_)
  have hP : va_P D vwCl ((h0, .inr (8, [.ref (u1.1 0), .ref (u2.1 0), .null, .null, .null, .null, .null, .null, .null, .null, .null, .null, .null, .int 0, .int 0, .int 0, .int 0, .int 0, .int 0])) :: (([] : va_W) ++ blkNa u1.1 u1.2 ++ blkPr u2.1 u2.2)) H := hP
  have hD : va_D A ((h0, .inr (8, [.ref (u1.1 0), .ref (u2.1 0), .null, .null, .null, .null, .null, .null, .null, .null, .null, .null, .null, .int 0, .int 0, .int 0, .int 0, .int 0, .int 0])) :: (([] : va_W) ++ blkNa u1.1 u1.2 ++ blkPr u2.1 u2.2)) := hD
  refine lv_aload_n hx hb dI_Tw_26 rfl (lv_at hl 0 rfl) ?_
  refine va_new (D := D) (ci := 0) (fs := [.null, .null, .int 0, .int 0, .int 0, .int 0]) (C := RX0) (T := TX0) (N := 6) hx hb hts2 (mLay (show vwCl[0]? = some (RX0, TX0, 6) from rfl)).1 (mTyF 0) (mLay (show vwCl[0]? = some (RX0, TX0, 6) from rfl)).2.2.1 hown (hts2 (.classLink RX8 25 RX0) (mTBm 1 234 rfl rfl)) (hts2 (.instantiable RX0 6) (mTBm 1 235 rfl rfl)) (hts2 (.initialized RX0) (mTBm 1 13 rfl rfl)) hK hP hD hS hA rfl dv_Da (Nat.le_of_ble_eq_true rfl) (Nat.le_of_ble_eq_true rfl) dI_Tw_27 (fun q3 H hP hD hS => ?_)
  refine lv_dup hx hb dI_Tw_30 rfl ?_
  have hPc := kl_P hP
  have hDc := kl_D hD
  have hKc := hK.sub (tys' := []) [] rfl
  have hFc := kl_F hD hS hA
  refine va_callv (va_runIN (b := q3) (As := []) (rest := .ref q3 :: [.ref h0]) ⟨hx, hb, hml, hown, hts2⟩ (cI_Da l D q3 H.size) ⟨va_cnB (host := "PaperBread") 0 hts2 (mGoodI (M' := mI_Da) (fun _ h => h) (mTBm 1 238 rfl rfl)) rfl rfl rfl (hN (.methodLinkNest RX8 27 (mY mI_Da) "PaperBread") (List.mem_of_getElem? (i := 4) rfl)) (hts2 (.initialized RX0) (mTBm 1 13 rfl rfl)) ⟨by decide +kernel, by decide +kernel, by decide +kernel⟩ ⟨Nat.le_of_ble_eq_true rfl, Nat.le_of_ble_eq_true rfl⟩, rfl, (hts2 (.instanceMethod (mY mI_Da)) (mTBm 1 237 rfl rfl))⟩ ⟨fun a U g mk q => by obtain ⟨q0, q1, qP, qK, qD⟩ := q; exact ⟨q0, q1, qP, va_K.moved (u := U) (U := U.calling g mk a) (Vm.Alike.refl U.vm) qK, qD⟩, fun U hU hW => ⟨rfl, by rw [hU], by rw [hU]; exact hPc, va_K.moved hW.alike hKc, hDc.weaken (fun _ _ _ _ => trivial)⟩⟩ rfl rfl hl.1 rfl (lv_room (Nat.le_of_ble_eq_true rfl)) dI_Tw_31 ⟨Nat.le_of_ble_eq_true rfl, Nat.le_of_ble_eq_true rfl⟩) hS (fun q _ h => hFc q h) hFc (fun u3 t H1 locs ht hvm hw hB hz1 hk1 hS => ?_)
  obtain ⟨hP1, hK1, hD1⟩ := hB
  rw [ht] at hP1
  have hK1 := va_K.moved hvm.symm hK1
  clear hPc hDc hKc
  subst hw
  obtain ⟨hP, hD⟩ := kl_J hP hD hk1 hFc hP1 hD1
  clear hFc hz1 hk1 hP1 hD1
  have hK := hK.app hK1
  generalize H1 = H at hP hS ⊢
  have hK : va_K D vwCl (([] : List (ClassId × FieldType)) ++ tysNa u1.2 ++ tysPr u2.2 ++ tysDa u3.2) s := hK
  have hP : va_P D vwCl ((h0, .inr (8, [.ref (u1.1 0), .ref (u2.1 0), .null, .null, .null, .null, .null, .null, .null, .null, .null, .null, .null, .int 0, .int 0, .int 0, .int 0, .int 0, .int 0])) :: (([] : va_W) ++ blkNa u1.1 u1.2 ++ blkPr u2.1 u2.2 ++ blkDa u3.1 u3.2)) H := hP
  have hD : va_D A ((h0, .inr (8, [.ref (u1.1 0), .ref (u2.1 0), .null, .null, .null, .null, .null, .null, .null, .null, .null, .null, .null, .int 0, .int 0, .int 0, .int 0, .int 0, .int 0])) :: (([] : va_W) ++ blkNa u1.1 u1.2 ++ blkPr u2.1 u2.2 ++ blkDa u3.1 u3.2)) := hD
  refine va_putF (D := D) (ci := 8) (v := .ref (u3.1 0)) (ty := (.object "PaperBread$Days")) (C := RX8) (T := TX8) (N := 19) hx hb hts2 lay1 _ lay3 lay4 hown hK hP hD hS 0 rfl rfl 2 (by decide) (hts2 (.fieldLink RX8 28 RX8 "days" "LPaperBread$Days;") (mTBm 2 33 rfl rfl)) (fun _ h9 => h9) rfl hin rfl (by decide +kernel) rfl rfl (Nat.le_of_ble_eq_true rfl) dI_Tw_34 (fun H locs hP hD hS => ?_)
  have hP : va_P D vwCl ((h0, .inr (8, [.ref (u1.1 0), .ref (u2.1 0), .ref (u3.1 0), .null, .null, .null, .null, .null, .null, .null, .null, .null, .null, .int 0, .int 0, .int 0, .int 0, .int 0, .int 0])) :: (([] : va_W) ++ blkNa u1.1 u1.2 ++ blkPr u2.1 u2.2 ++ blkDa u3.1 u3.2)) H := hP
  have hD : va_D A ((h0, .inr (8, [.ref (u1.1 0), .ref (u2.1 0), .ref (u3.1 0), .null, .null, .null, .null, .null, .null, .null, .null, .null, .null, .int 0, .int 0, .int 0, .int 0, .int 0, .int 0])) :: (([] : va_W) ++ blkNa u1.1 u1.2 ++ blkPr u2.1 u2.2 ++ blkDa u3.1 u3.2)) := hD
  refine lv_aload_n hx hb dI_Tw_37 rfl (lv_at hl 0 rfl) ?_
  refine lv_bipush hx hb dI_Tw_38 (v := nI 8) rfl ?_
  refine va_newa (atype := .int) (a0 := (8, .inl (fun _ => 0))) (N' := 8) (ty := .int) hx hb (hts (.arrayClass .int) (List.mem_cons_of_mem _ (mTBm 1 48 rfl rfl))) rfl hK hP hD hS hA (ha_int 8) (nI_pos (by decide)) (nI_clamp (by decide)) (Nat.le_of_ble_eq_true rfl) (Nat.le_of_ble_eq_true rfl) (Nat.le_of_ble_eq_true rfl) dI_Tw_40 (fun q4 c4 H hK hP hD hS => ?_)
  have hK : va_K D vwCl (([] : List (ClassId × FieldType)) ++ tysNa u1.2 ++ tysPr u2.2 ++ tysDa u3.2 ++ [(c4, .int)]) s := hK
  have hP : va_P D vwCl ((h0, .inr (8, [.ref (u1.1 0), .ref (u2.1 0), .ref (u3.1 0), .null, .null, .null, .null, .null, .null, .null, .null, .null, .null, .int 0, .int 0, .int 0, .int 0, .int 0, .int 0])) :: (([] : va_W) ++ blkNa u1.1 u1.2 ++ blkPr u2.1 u2.2 ++ blkDa u3.1 u3.2 ++ [(q4, .inl (c4, (8, .inl (fun _ => 0))))])) H := hP
  have hD : va_D A ((h0, .inr (8, [.ref (u1.1 0), .ref (u2.1 0), .ref (u3.1 0), .null, .null, .null, .null, .null, .null, .null, .null, .null, .null, .int 0, .int 0, .int 0, .int 0, .int 0, .int 0])) :: (([] : va_W) ++ blkNa u1.1 u1.2 ++ blkPr u2.1 u2.2 ++ blkDa u3.1 u3.2 ++ [(q4, .inl (c4, (8, .inl (fun _ => 0))))])) := hD
  refine va_putF (D := D) (ci := 8) (v := .ref q4) (ty := (.array .int)) (C := RX8) (T := TX8) (N := 19) hx hb hts2 lay1 _ lay3 lay4 hown hK hP hD hS 0 rfl rfl 3 (by decide) (hts2 (.fieldLink RX8 32 RX8 "purse" "[I") (mTBm 2 36 rfl rfl)) (fun _ h9 => h9) rfl hin rfl (by decide +kernel) rfl rfl (Nat.le_of_ble_eq_true rfl) dI_Tw_42 (fun H locs hP hD hS => ?_)
  have hP : va_P D vwCl ((h0, .inr (8, [.ref (u1.1 0), .ref (u2.1 0), .ref (u3.1 0), .ref q4, .null, .null, .null, .null, .null, .null, .null, .null, .null, .int 0, .int 0, .int 0, .int 0, .int 0, .int 0])) :: (([] : va_W) ++ blkNa u1.1 u1.2 ++ blkPr u2.1 u2.2 ++ blkDa u3.1 u3.2 ++ [(q4, .inl (c4, (8, .inl (fun _ => 0))))])) H := hP
  have hD : va_D A ((h0, .inr (8, [.ref (u1.1 0), .ref (u2.1 0), .ref (u3.1 0), .ref q4, .null, .null, .null, .null, .null, .null, .null, .null, .null, .int 0, .int 0, .int 0, .int 0, .int 0, .int 0])) :: (([] : va_W) ++ blkNa u1.1 u1.2 ++ blkPr u2.1 u2.2 ++ blkDa u3.1 u3.2 ++ [(q4, .inl (c4, (8, .inl (fun _ => 0))))])) := hD
  refine lv_aload_n hx hb dI_Tw_45 rfl (lv_at hl 0 rfl) ?_
  refine lv_bipush hx hb dI_Tw_46 (v := nI 8) rfl ?_
  refine va_newa (atype := .int) (a0 := (8, .inl (fun _ => 0))) (N' := 8) (ty := .int) hx hb (hts (.arrayClass .int) (List.mem_cons_of_mem _ (mTBm 1 48 rfl rfl))) rfl hK hP hD hS hA (ha_int 8) (nI_pos (by decide)) (nI_clamp (by decide)) (Nat.le_of_ble_eq_true rfl) (Nat.le_of_ble_eq_true rfl) (Nat.le_of_ble_eq_true rfl) dI_Tw_48 (fun q5 c5 H hK hP hD hS => ?_)
  have hK : va_K D vwCl (([] : List (ClassId × FieldType)) ++ tysNa u1.2 ++ tysPr u2.2 ++ tysDa u3.2 ++ [(c4, .int)] ++ [(c5, .int)]) s := hK
  have hP : va_P D vwCl ((h0, .inr (8, [.ref (u1.1 0), .ref (u2.1 0), .ref (u3.1 0), .ref q4, .null, .null, .null, .null, .null, .null, .null, .null, .null, .int 0, .int 0, .int 0, .int 0, .int 0, .int 0])) :: (([] : va_W) ++ blkNa u1.1 u1.2 ++ blkPr u2.1 u2.2 ++ blkDa u3.1 u3.2 ++ [(q4, .inl (c4, (8, .inl (fun _ => 0))))] ++ [(q5, .inl (c5, (8, .inl (fun _ => 0))))])) H := hP
  have hD : va_D A ((h0, .inr (8, [.ref (u1.1 0), .ref (u2.1 0), .ref (u3.1 0), .ref q4, .null, .null, .null, .null, .null, .null, .null, .null, .null, .int 0, .int 0, .int 0, .int 0, .int 0, .int 0])) :: (([] : va_W) ++ blkNa u1.1 u1.2 ++ blkPr u2.1 u2.2 ++ blkDa u3.1 u3.2 ++ [(q4, .inl (c4, (8, .inl (fun _ => 0))))] ++ [(q5, .inl (c5, (8, .inl (fun _ => 0))))])) := hD
  refine va_putF (D := D) (ci := 8) (v := .ref q5) (ty := (.array .int)) (C := RX8) (T := TX8) (N := 19) hx hb hts2 lay1 _ lay3 lay4 hown hK hP hD hS 0 rfl rfl 4 (by decide) (hts2 (.fieldLink RX8 36 RX8 "own" "[I") (mTBm 2 38 rfl rfl)) (fun _ h9 => h9) rfl hin rfl (by decide +kernel) rfl rfl (Nat.le_of_ble_eq_true rfl) dI_Tw_50 (fun H locs hP hD hS => ?_)
  have hP : va_P D vwCl ((h0, .inr (8, [.ref (u1.1 0), .ref (u2.1 0), .ref (u3.1 0), .ref q4, .ref q5, .null, .null, .null, .null, .null, .null, .null, .null, .int 0, .int 0, .int 0, .int 0, .int 0, .int 0])) :: (([] : va_W) ++ blkNa u1.1 u1.2 ++ blkPr u2.1 u2.2 ++ blkDa u3.1 u3.2 ++ [(q4, .inl (c4, (8, .inl (fun _ => 0))))] ++ [(q5, .inl (c5, (8, .inl (fun _ => 0))))])) H := hP
  have hD : va_D A ((h0, .inr (8, [.ref (u1.1 0), .ref (u2.1 0), .ref (u3.1 0), .ref q4, .ref q5, .null, .null, .null, .null, .null, .null, .null, .null, .int 0, .int 0, .int 0, .int 0, .int 0, .int 0])) :: (([] : va_W) ++ blkNa u1.1 u1.2 ++ blkPr u2.1 u2.2 ++ blkDa u3.1 u3.2 ++ [(q4, .inl (c4, (8, .inl (fun _ => 0))))] ++ [(q5, .inl (c5, (8, .inl (fun _ => 0))))])) := hD
  refine lv_aload_n hx hb dI_Tw_53 rfl (lv_at hl 0 rfl) ?_
  refine lv_bipush hx hb dI_Tw_54 (v := nI 8) rfl ?_
  refine va_newa (atype := .int) (a0 := (8, .inl (fun _ => 0))) (N' := 8) (ty := .int) hx hb (hts (.arrayClass .int) (List.mem_cons_of_mem _ (mTBm 1 48 rfl rfl))) rfl hK hP hD hS hA (ha_int 8) (nI_pos (by decide)) (nI_clamp (by decide)) (Nat.le_of_ble_eq_true rfl) (Nat.le_of_ble_eq_true rfl) (Nat.le_of_ble_eq_true rfl) dI_Tw_56 (fun q6 c6 H hK hP hD hS => ?_)
  have hK : va_K D vwCl (([] : List (ClassId × FieldType)) ++ tysNa u1.2 ++ tysPr u2.2 ++ tysDa u3.2 ++ [(c4, .int)] ++ [(c5, .int)] ++ [(c6, .int)]) s := hK
  have hP : va_P D vwCl ((h0, .inr (8, [.ref (u1.1 0), .ref (u2.1 0), .ref (u3.1 0), .ref q4, .ref q5, .null, .null, .null, .null, .null, .null, .null, .null, .int 0, .int 0, .int 0, .int 0, .int 0, .int 0])) :: (([] : va_W) ++ blkNa u1.1 u1.2 ++ blkPr u2.1 u2.2 ++ blkDa u3.1 u3.2 ++ [(q4, .inl (c4, (8, .inl (fun _ => 0))))] ++ [(q5, .inl (c5, (8, .inl (fun _ => 0))))] ++ [(q6, .inl (c6, (8, .inl (fun _ => 0))))])) H := hP
  have hD : va_D A ((h0, .inr (8, [.ref (u1.1 0), .ref (u2.1 0), .ref (u3.1 0), .ref q4, .ref q5, .null, .null, .null, .null, .null, .null, .null, .null, .int 0, .int 0, .int 0, .int 0, .int 0, .int 0])) :: (([] : va_W) ++ blkNa u1.1 u1.2 ++ blkPr u2.1 u2.2 ++ blkDa u3.1 u3.2 ++ [(q4, .inl (c4, (8, .inl (fun _ => 0))))] ++ [(q5, .inl (c5, (8, .inl (fun _ => 0))))] ++ [(q6, .inl (c6, (8, .inl (fun _ => 0))))])) := hD
  refine va_putF (D := D) (ci := 8) (v := .ref q6) (ty := (.array .int)) (C := RX8) (T := TX8) (N := 19) hx hb hts2 lay1 _ lay3 lay4 hown hK hP hD hS 0 rfl rfl 5 (by decide) (hts2 (.fieldLink RX8 39 RX8 "lostFace" "[I") (mTBm 2 41 rfl rfl)) (fun _ h9 => h9) rfl hin rfl (by decide +kernel) rfl rfl (Nat.le_of_ble_eq_true rfl) dI_Tw_58 (fun H locs hP hD hS => ?_)
  have hP : va_P D vwCl ((h0, .inr (8, [.ref (u1.1 0), .ref (u2.1 0), .ref (u3.1 0), .ref q4, .ref q5, .ref q6, .null, .null, .null, .null, .null, .null, .null, .int 0, .int 0, .int 0, .int 0, .int 0, .int 0])) :: (([] : va_W) ++ blkNa u1.1 u1.2 ++ blkPr u2.1 u2.2 ++ blkDa u3.1 u3.2 ++ [(q4, .inl (c4, (8, .inl (fun _ => 0))))] ++ [(q5, .inl (c5, (8, .inl (fun _ => 0))))] ++ [(q6, .inl (c6, (8, .inl (fun _ => 0))))])) H := hP
  have hD : va_D A ((h0, .inr (8, [.ref (u1.1 0), .ref (u2.1 0), .ref (u3.1 0), .ref q4, .ref q5, .ref q6, .null, .null, .null, .null, .null, .null, .null, .int 0, .int 0, .int 0, .int 0, .int 0, .int 0])) :: (([] : va_W) ++ blkNa u1.1 u1.2 ++ blkPr u2.1 u2.2 ++ blkDa u3.1 u3.2 ++ [(q4, .inl (c4, (8, .inl (fun _ => 0))))] ++ [(q5, .inl (c5, (8, .inl (fun _ => 0))))] ++ [(q6, .inl (c6, (8, .inl (fun _ => 0))))])) := hD
  refine lv_aload_n hx hb dI_Tw_61 rfl (lv_at hl 0 rfl) ?_
  refine lv_iconst hx hb dI_Tw_62 (v := nI 4) rfl ?_
  refine va_newa (atype := .int) (a0 := (4, .inl (fun _ => 0))) (N' := 4) (ty := .int) hx hb (hts (.arrayClass .int) (List.mem_cons_of_mem _ (mTBm 1 48 rfl rfl))) rfl hK hP hD hS hA (ha_int 4) (nI_pos (by decide)) (nI_clamp (by decide)) (Nat.le_of_ble_eq_true rfl) (Nat.le_of_ble_eq_true rfl) (Nat.le_of_ble_eq_true rfl) dI_Tw_63 (fun q7 c7 H hK hP hD hS => ?_)
  have hK : va_K D vwCl (([] : List (ClassId × FieldType)) ++ tysNa u1.2 ++ tysPr u2.2 ++ tysDa u3.2 ++ [(c4, .int)] ++ [(c5, .int)] ++ [(c6, .int)] ++ [(c7, .int)]) s := hK
  have hP : va_P D vwCl ((h0, .inr (8, [.ref (u1.1 0), .ref (u2.1 0), .ref (u3.1 0), .ref q4, .ref q5, .ref q6, .null, .null, .null, .null, .null, .null, .null, .int 0, .int 0, .int 0, .int 0, .int 0, .int 0])) :: (([] : va_W) ++ blkNa u1.1 u1.2 ++ blkPr u2.1 u2.2 ++ blkDa u3.1 u3.2 ++ [(q4, .inl (c4, (8, .inl (fun _ => 0))))] ++ [(q5, .inl (c5, (8, .inl (fun _ => 0))))] ++ [(q6, .inl (c6, (8, .inl (fun _ => 0))))] ++ [(q7, .inl (c7, (4, .inl (fun _ => 0))))])) H := hP
  have hD : va_D A ((h0, .inr (8, [.ref (u1.1 0), .ref (u2.1 0), .ref (u3.1 0), .ref q4, .ref q5, .ref q6, .null, .null, .null, .null, .null, .null, .null, .int 0, .int 0, .int 0, .int 0, .int 0, .int 0])) :: (([] : va_W) ++ blkNa u1.1 u1.2 ++ blkPr u2.1 u2.2 ++ blkDa u3.1 u3.2 ++ [(q4, .inl (c4, (8, .inl (fun _ => 0))))] ++ [(q5, .inl (c5, (8, .inl (fun _ => 0))))] ++ [(q6, .inl (c6, (8, .inl (fun _ => 0))))] ++ [(q7, .inl (c7, (4, .inl (fun _ => 0))))])) := hD
  refine va_putF (D := D) (ci := 8) (v := .ref q7) (ty := (.array .int)) (C := RX8) (T := TX8) (N := 19) hx hb hts2 lay1 _ lay3 lay4 hown hK hP hD hS 0 rfl rfl 6 (by decide) (hts2 (.fieldLink RX8 42 RX8 "rain" "[I") (mTBm 2 43 rfl rfl)) (fun _ h9 => h9) rfl hin rfl (by decide +kernel) rfl rfl (Nat.le_of_ble_eq_true rfl) dI_Tw_65 (fun H locs hP hD hS => ?_)
  have hP : va_P D vwCl ((h0, .inr (8, [.ref (u1.1 0), .ref (u2.1 0), .ref (u3.1 0), .ref q4, .ref q5, .ref q6, .ref q7, .null, .null, .null, .null, .null, .null, .int 0, .int 0, .int 0, .int 0, .int 0, .int 0])) :: (([] : va_W) ++ blkNa u1.1 u1.2 ++ blkPr u2.1 u2.2 ++ blkDa u3.1 u3.2 ++ [(q4, .inl (c4, (8, .inl (fun _ => 0))))] ++ [(q5, .inl (c5, (8, .inl (fun _ => 0))))] ++ [(q6, .inl (c6, (8, .inl (fun _ => 0))))] ++ [(q7, .inl (c7, (4, .inl (fun _ => 0))))])) H := hP
  have hD : va_D A ((h0, .inr (8, [.ref (u1.1 0), .ref (u2.1 0), .ref (u3.1 0), .ref q4, .ref q5, .ref q6, .ref q7, .null, .null, .null, .null, .null, .null, .int 0, .int 0, .int 0, .int 0, .int 0, .int 0])) :: (([] : va_W) ++ blkNa u1.1 u1.2 ++ blkPr u2.1 u2.2 ++ blkDa u3.1 u3.2 ++ [(q4, .inl (c4, (8, .inl (fun _ => 0))))] ++ [(q5, .inl (c5, (8, .inl (fun _ => 0))))] ++ [(q6, .inl (c6, (8, .inl (fun _ => 0))))] ++ [(q7, .inl (c7, (4, .inl (fun _ => 0))))])) := hD
  refine lv_aload_n hx hb dI_Tw_68 rfl (lv_at hl 0 rfl) ?_
  refine lv_bipush hx hb dI_Tw_69 (v := nI 8) rfl ?_
  refine va_newa (atype := .int) (a0 := (8, .inl (fun _ => 0))) (N' := 8) (ty := .int) hx hb (hts (.arrayClass .int) (List.mem_cons_of_mem _ (mTBm 1 48 rfl rfl))) rfl hK hP hD hS hA (ha_int 8) (nI_pos (by decide)) (nI_clamp (by decide)) (Nat.le_of_ble_eq_true rfl) (Nat.le_of_ble_eq_true rfl) (Nat.le_of_ble_eq_true rfl) dI_Tw_71 (fun q8 c8 H hK hP hD hS => ?_)
  have hK : va_K D vwCl (([] : List (ClassId × FieldType)) ++ tysNa u1.2 ++ tysPr u2.2 ++ tysDa u3.2 ++ [(c4, .int)] ++ [(c5, .int)] ++ [(c6, .int)] ++ [(c7, .int)] ++ [(c8, .int)]) s := hK
  have hP : va_P D vwCl ((h0, .inr (8, [.ref (u1.1 0), .ref (u2.1 0), .ref (u3.1 0), .ref q4, .ref q5, .ref q6, .ref q7, .null, .null, .null, .null, .null, .null, .int 0, .int 0, .int 0, .int 0, .int 0, .int 0])) :: (([] : va_W) ++ blkNa u1.1 u1.2 ++ blkPr u2.1 u2.2 ++ blkDa u3.1 u3.2 ++ [(q4, .inl (c4, (8, .inl (fun _ => 0))))] ++ [(q5, .inl (c5, (8, .inl (fun _ => 0))))] ++ [(q6, .inl (c6, (8, .inl (fun _ => 0))))] ++ [(q7, .inl (c7, (4, .inl (fun _ => 0))))] ++ [(q8, .inl (c8, (8, .inl (fun _ => 0))))])) H := hP
  have hD : va_D A ((h0, .inr (8, [.ref (u1.1 0), .ref (u2.1 0), .ref (u3.1 0), .ref q4, .ref q5, .ref q6, .ref q7, .null, .null, .null, .null, .null, .null, .int 0, .int 0, .int 0, .int 0, .int 0, .int 0])) :: (([] : va_W) ++ blkNa u1.1 u1.2 ++ blkPr u2.1 u2.2 ++ blkDa u3.1 u3.2 ++ [(q4, .inl (c4, (8, .inl (fun _ => 0))))] ++ [(q5, .inl (c5, (8, .inl (fun _ => 0))))] ++ [(q6, .inl (c6, (8, .inl (fun _ => 0))))] ++ [(q7, .inl (c7, (4, .inl (fun _ => 0))))] ++ [(q8, .inl (c8, (8, .inl (fun _ => 0))))])) := hD
  refine va_putF (D := D) (ci := 8) (v := .ref q8) (ty := (.array .int)) (C := RX8) (T := TX8) (N := 19) hx hb hts2 lay1 _ lay3 lay4 hown hK hP hD hS 0 rfl rfl 7 (by decide) (hts2 (.fieldLink RX8 45 RX8 "baker" "[I") (mTBm 2 45 rfl rfl)) (fun _ h9 => h9) rfl hin rfl (by decide +kernel) rfl rfl (Nat.le_of_ble_eq_true rfl) dI_Tw_73 (fun H locs hP hD hS => ?_)
  have hP : va_P D vwCl ((h0, .inr (8, [.ref (u1.1 0), .ref (u2.1 0), .ref (u3.1 0), .ref q4, .ref q5, .ref q6, .ref q7, .ref q8, .null, .null, .null, .null, .null, .int 0, .int 0, .int 0, .int 0, .int 0, .int 0])) :: (([] : va_W) ++ blkNa u1.1 u1.2 ++ blkPr u2.1 u2.2 ++ blkDa u3.1 u3.2 ++ [(q4, .inl (c4, (8, .inl (fun _ => 0))))] ++ [(q5, .inl (c5, (8, .inl (fun _ => 0))))] ++ [(q6, .inl (c6, (8, .inl (fun _ => 0))))] ++ [(q7, .inl (c7, (4, .inl (fun _ => 0))))] ++ [(q8, .inl (c8, (8, .inl (fun _ => 0))))])) H := hP
  have hD : va_D A ((h0, .inr (8, [.ref (u1.1 0), .ref (u2.1 0), .ref (u3.1 0), .ref q4, .ref q5, .ref q6, .ref q7, .ref q8, .null, .null, .null, .null, .null, .int 0, .int 0, .int 0, .int 0, .int 0, .int 0])) :: (([] : va_W) ++ blkNa u1.1 u1.2 ++ blkPr u2.1 u2.2 ++ blkDa u3.1 u3.2 ++ [(q4, .inl (c4, (8, .inl (fun _ => 0))))] ++ [(q5, .inl (c5, (8, .inl (fun _ => 0))))] ++ [(q6, .inl (c6, (8, .inl (fun _ => 0))))] ++ [(q7, .inl (c7, (4, .inl (fun _ => 0))))] ++ [(q8, .inl (c8, (8, .inl (fun _ => 0))))])) := hD
  refine lv_aload_n hx hb dI_Tw_76 rfl (lv_at hl 0 rfl) ?_
  refine lv_bipush hx hb dI_Tw_77 (v := nI 8) rfl ?_
  refine va_newa (atype := .int) (a0 := (8, .inl (fun _ => 0))) (N' := 8) (ty := .int) hx hb (hts (.arrayClass .int) (List.mem_cons_of_mem _ (mTBm 1 48 rfl rfl))) rfl hK hP hD hS hA (ha_int 8) (nI_pos (by decide)) (nI_clamp (by decide)) (Nat.le_of_ble_eq_true rfl) (Nat.le_of_ble_eq_true rfl) (Nat.le_of_ble_eq_true rfl) dI_Tw_79 (fun q9 c9 H hK hP hD hS => ?_)
  have hK : va_K D vwCl (([] : List (ClassId × FieldType)) ++ tysNa u1.2 ++ tysPr u2.2 ++ tysDa u3.2 ++ [(c4, .int)] ++ [(c5, .int)] ++ [(c6, .int)] ++ [(c7, .int)] ++ [(c8, .int)] ++ [(c9, .int)]) s := hK
  have hP : va_P D vwCl ((h0, .inr (8, [.ref (u1.1 0), .ref (u2.1 0), .ref (u3.1 0), .ref q4, .ref q5, .ref q6, .ref q7, .ref q8, .null, .null, .null, .null, .null, .int 0, .int 0, .int 0, .int 0, .int 0, .int 0])) :: (([] : va_W) ++ blkNa u1.1 u1.2 ++ blkPr u2.1 u2.2 ++ blkDa u3.1 u3.2 ++ [(q4, .inl (c4, (8, .inl (fun _ => 0))))] ++ [(q5, .inl (c5, (8, .inl (fun _ => 0))))] ++ [(q6, .inl (c6, (8, .inl (fun _ => 0))))] ++ [(q7, .inl (c7, (4, .inl (fun _ => 0))))] ++ [(q8, .inl (c8, (8, .inl (fun _ => 0))))] ++ [(q9, .inl (c9, (8, .inl (fun _ => 0))))])) H := hP
  have hD : va_D A ((h0, .inr (8, [.ref (u1.1 0), .ref (u2.1 0), .ref (u3.1 0), .ref q4, .ref q5, .ref q6, .ref q7, .ref q8, .null, .null, .null, .null, .null, .int 0, .int 0, .int 0, .int 0, .int 0, .int 0])) :: (([] : va_W) ++ blkNa u1.1 u1.2 ++ blkPr u2.1 u2.2 ++ blkDa u3.1 u3.2 ++ [(q4, .inl (c4, (8, .inl (fun _ => 0))))] ++ [(q5, .inl (c5, (8, .inl (fun _ => 0))))] ++ [(q6, .inl (c6, (8, .inl (fun _ => 0))))] ++ [(q7, .inl (c7, (4, .inl (fun _ => 0))))] ++ [(q8, .inl (c8, (8, .inl (fun _ => 0))))] ++ [(q9, .inl (c9, (8, .inl (fun _ => 0))))])) := hD
  refine va_putF (D := D) (ci := 8) (v := .ref q9) (ty := (.array .int)) (C := RX8) (T := TX8) (N := 19) hx hb hts2 lay1 _ lay3 lay4 hown hK hP hD hS 0 rfl rfl 8 (by decide) (hts2 (.fieldLink RX8 48 RX8 "oven" "[I") (mTBm 2 48 rfl rfl)) (fun _ h9 => h9) rfl hin rfl (by decide +kernel) rfl rfl (Nat.le_of_ble_eq_true rfl) dI_Tw_81 (fun H locs hP hD hS => ?_)
  have hP : va_P D vwCl ((h0, .inr (8, [.ref (u1.1 0), .ref (u2.1 0), .ref (u3.1 0), .ref q4, .ref q5, .ref q6, .ref q7, .ref q8, .ref q9, .null, .null, .null, .null, .int 0, .int 0, .int 0, .int 0, .int 0, .int 0])) :: (([] : va_W) ++ blkNa u1.1 u1.2 ++ blkPr u2.1 u2.2 ++ blkDa u3.1 u3.2 ++ [(q4, .inl (c4, (8, .inl (fun _ => 0))))] ++ [(q5, .inl (c5, (8, .inl (fun _ => 0))))] ++ [(q6, .inl (c6, (8, .inl (fun _ => 0))))] ++ [(q7, .inl (c7, (4, .inl (fun _ => 0))))] ++ [(q8, .inl (c8, (8, .inl (fun _ => 0))))] ++ [(q9, .inl (c9, (8, .inl (fun _ => 0))))])) H := hP
  have hD : va_D A ((h0, .inr (8, [.ref (u1.1 0), .ref (u2.1 0), .ref (u3.1 0), .ref q4, .ref q5, .ref q6, .ref q7, .ref q8, .ref q9, .null, .null, .null, .null, .int 0, .int 0, .int 0, .int 0, .int 0, .int 0])) :: (([] : va_W) ++ blkNa u1.1 u1.2 ++ blkPr u2.1 u2.2 ++ blkDa u3.1 u3.2 ++ [(q4, .inl (c4, (8, .inl (fun _ => 0))))] ++ [(q5, .inl (c5, (8, .inl (fun _ => 0))))] ++ [(q6, .inl (c6, (8, .inl (fun _ => 0))))] ++ [(q7, .inl (c7, (4, .inl (fun _ => 0))))] ++ [(q8, .inl (c8, (8, .inl (fun _ => 0))))] ++ [(q9, .inl (c9, (8, .inl (fun _ => 0))))])) := hD
  refine lv_aload_n hx hb dI_Tw_84 rfl (lv_at hl 0 rfl) ?_
  refine lv_bipush hx hb dI_Tw_85 (v := nI 8) rfl ?_
  refine va_newa (atype := .int) (a0 := (8, .inl (fun _ => 0))) (N' := 8) (ty := .int) hx hb (hts (.arrayClass .int) (List.mem_cons_of_mem _ (mTBm 1 48 rfl rfl))) rfl hK hP hD hS hA (ha_int 8) (nI_pos (by decide)) (nI_clamp (by decide)) (Nat.le_of_ble_eq_true rfl) (Nat.le_of_ble_eq_true rfl) (Nat.le_of_ble_eq_true rfl) dI_Tw_87 (fun q10 c10 H hK hP hD hS => ?_)
  have hK : va_K D vwCl (([] : List (ClassId × FieldType)) ++ tysNa u1.2 ++ tysPr u2.2 ++ tysDa u3.2 ++ [(c4, .int)] ++ [(c5, .int)] ++ [(c6, .int)] ++ [(c7, .int)] ++ [(c8, .int)] ++ [(c9, .int)] ++ [(c10, .int)]) s := hK
  have hP : va_P D vwCl ((h0, .inr (8, [.ref (u1.1 0), .ref (u2.1 0), .ref (u3.1 0), .ref q4, .ref q5, .ref q6, .ref q7, .ref q8, .ref q9, .null, .null, .null, .null, .int 0, .int 0, .int 0, .int 0, .int 0, .int 0])) :: (([] : va_W) ++ blkNa u1.1 u1.2 ++ blkPr u2.1 u2.2 ++ blkDa u3.1 u3.2 ++ [(q4, .inl (c4, (8, .inl (fun _ => 0))))] ++ [(q5, .inl (c5, (8, .inl (fun _ => 0))))] ++ [(q6, .inl (c6, (8, .inl (fun _ => 0))))] ++ [(q7, .inl (c7, (4, .inl (fun _ => 0))))] ++ [(q8, .inl (c8, (8, .inl (fun _ => 0))))] ++ [(q9, .inl (c9, (8, .inl (fun _ => 0))))] ++ [(q10, .inl (c10, (8, .inl (fun _ => 0))))])) H := hP
  have hD : va_D A ((h0, .inr (8, [.ref (u1.1 0), .ref (u2.1 0), .ref (u3.1 0), .ref q4, .ref q5, .ref q6, .ref q7, .ref q8, .ref q9, .null, .null, .null, .null, .int 0, .int 0, .int 0, .int 0, .int 0, .int 0])) :: (([] : va_W) ++ blkNa u1.1 u1.2 ++ blkPr u2.1 u2.2 ++ blkDa u3.1 u3.2 ++ [(q4, .inl (c4, (8, .inl (fun _ => 0))))] ++ [(q5, .inl (c5, (8, .inl (fun _ => 0))))] ++ [(q6, .inl (c6, (8, .inl (fun _ => 0))))] ++ [(q7, .inl (c7, (4, .inl (fun _ => 0))))] ++ [(q8, .inl (c8, (8, .inl (fun _ => 0))))] ++ [(q9, .inl (c9, (8, .inl (fun _ => 0))))] ++ [(q10, .inl (c10, (8, .inl (fun _ => 0))))])) := hD
  refine va_putF (D := D) (ci := 8) (v := .ref q10) (ty := (.array .int)) (C := RX8) (T := TX8) (N := 19) hx hb hts2 lay1 _ lay3 lay4 hown hK hP hD hS 0 rfl rfl 9 (by decide) (hts2 (.fieldLink RX8 51 RX8 "bakingDay" "[I") (mTBm 2 50 rfl rfl)) (fun _ h9 => h9) rfl hin rfl (by decide +kernel) rfl rfl (Nat.le_of_ble_eq_true rfl) dI_Tw_89 (fun H locs hP hD hS => ?_)
  have hP : va_P D vwCl ((h0, .inr (8, [.ref (u1.1 0), .ref (u2.1 0), .ref (u3.1 0), .ref q4, .ref q5, .ref q6, .ref q7, .ref q8, .ref q9, .ref q10, .null, .null, .null, .int 0, .int 0, .int 0, .int 0, .int 0, .int 0])) :: (([] : va_W) ++ blkNa u1.1 u1.2 ++ blkPr u2.1 u2.2 ++ blkDa u3.1 u3.2 ++ [(q4, .inl (c4, (8, .inl (fun _ => 0))))] ++ [(q5, .inl (c5, (8, .inl (fun _ => 0))))] ++ [(q6, .inl (c6, (8, .inl (fun _ => 0))))] ++ [(q7, .inl (c7, (4, .inl (fun _ => 0))))] ++ [(q8, .inl (c8, (8, .inl (fun _ => 0))))] ++ [(q9, .inl (c9, (8, .inl (fun _ => 0))))] ++ [(q10, .inl (c10, (8, .inl (fun _ => 0))))])) H := hP
  have hD : va_D A ((h0, .inr (8, [.ref (u1.1 0), .ref (u2.1 0), .ref (u3.1 0), .ref q4, .ref q5, .ref q6, .ref q7, .ref q8, .ref q9, .ref q10, .null, .null, .null, .int 0, .int 0, .int 0, .int 0, .int 0, .int 0])) :: (([] : va_W) ++ blkNa u1.1 u1.2 ++ blkPr u2.1 u2.2 ++ blkDa u3.1 u3.2 ++ [(q4, .inl (c4, (8, .inl (fun _ => 0))))] ++ [(q5, .inl (c5, (8, .inl (fun _ => 0))))] ++ [(q6, .inl (c6, (8, .inl (fun _ => 0))))] ++ [(q7, .inl (c7, (4, .inl (fun _ => 0))))] ++ [(q8, .inl (c8, (8, .inl (fun _ => 0))))] ++ [(q9, .inl (c9, (8, .inl (fun _ => 0))))] ++ [(q10, .inl (c10, (8, .inl (fun _ => 0))))])) := hD
  refine lv_aload_n hx hb dI_Tw_92 rfl (lv_at hl 0 rfl) ?_
  refine lv_bipush hx hb dI_Tw_93 (v := nI 8) rfl ?_
  refine va_newa (atype := .int) (a0 := (8, .inl (fun _ => 0))) (N' := 8) (ty := .int) hx hb (hts (.arrayClass .int) (List.mem_cons_of_mem _ (mTBm 1 48 rfl rfl))) rfl hK hP hD hS hA (ha_int 8) (nI_pos (by decide)) (nI_clamp (by decide)) (Nat.le_of_ble_eq_true rfl) (Nat.le_of_ble_eq_true rfl) (Nat.le_of_ble_eq_true rfl) dI_Tw_95 (fun q11 c11 H hK hP hD hS => ?_)
  have hK : va_K D vwCl (([] : List (ClassId × FieldType)) ++ tysNa u1.2 ++ tysPr u2.2 ++ tysDa u3.2 ++ [(c4, .int)] ++ [(c5, .int)] ++ [(c6, .int)] ++ [(c7, .int)] ++ [(c8, .int)] ++ [(c9, .int)] ++ [(c10, .int)] ++ [(c11, .int)]) s := hK
  have hP : va_P D vwCl ((h0, .inr (8, [.ref (u1.1 0), .ref (u2.1 0), .ref (u3.1 0), .ref q4, .ref q5, .ref q6, .ref q7, .ref q8, .ref q9, .ref q10, .null, .null, .null, .int 0, .int 0, .int 0, .int 0, .int 0, .int 0])) :: (([] : va_W) ++ blkNa u1.1 u1.2 ++ blkPr u2.1 u2.2 ++ blkDa u3.1 u3.2 ++ [(q4, .inl (c4, (8, .inl (fun _ => 0))))] ++ [(q5, .inl (c5, (8, .inl (fun _ => 0))))] ++ [(q6, .inl (c6, (8, .inl (fun _ => 0))))] ++ [(q7, .inl (c7, (4, .inl (fun _ => 0))))] ++ [(q8, .inl (c8, (8, .inl (fun _ => 0))))] ++ [(q9, .inl (c9, (8, .inl (fun _ => 0))))] ++ [(q10, .inl (c10, (8, .inl (fun _ => 0))))] ++ [(q11, .inl (c11, (8, .inl (fun _ => 0))))])) H := hP
  have hD : va_D A ((h0, .inr (8, [.ref (u1.1 0), .ref (u2.1 0), .ref (u3.1 0), .ref q4, .ref q5, .ref q6, .ref q7, .ref q8, .ref q9, .ref q10, .null, .null, .null, .int 0, .int 0, .int 0, .int 0, .int 0, .int 0])) :: (([] : va_W) ++ blkNa u1.1 u1.2 ++ blkPr u2.1 u2.2 ++ blkDa u3.1 u3.2 ++ [(q4, .inl (c4, (8, .inl (fun _ => 0))))] ++ [(q5, .inl (c5, (8, .inl (fun _ => 0))))] ++ [(q6, .inl (c6, (8, .inl (fun _ => 0))))] ++ [(q7, .inl (c7, (4, .inl (fun _ => 0))))] ++ [(q8, .inl (c8, (8, .inl (fun _ => 0))))] ++ [(q9, .inl (c9, (8, .inl (fun _ => 0))))] ++ [(q10, .inl (c10, (8, .inl (fun _ => 0))))] ++ [(q11, .inl (c11, (8, .inl (fun _ => 0))))])) := hD
  refine va_putF (D := D) (ci := 8) (v := .ref q11) (ty := (.array .int)) (C := RX8) (T := TX8) (N := 19) hx hb hts2 lay1 _ lay3 lay4 hown hK hP hD hS 0 rfl rfl 10 (by decide) (hts2 (.fieldLink RX8 54 RX8 "slices" "[I") (mTBm 2 52 rfl rfl)) (fun _ h9 => h9) rfl hin rfl (by decide +kernel) rfl rfl (Nat.le_of_ble_eq_true rfl) dI_Tw_97 (fun H locs hP hD hS => ?_)
  have hP : va_P D vwCl ((h0, .inr (8, [.ref (u1.1 0), .ref (u2.1 0), .ref (u3.1 0), .ref q4, .ref q5, .ref q6, .ref q7, .ref q8, .ref q9, .ref q10, .ref q11, .null, .null, .int 0, .int 0, .int 0, .int 0, .int 0, .int 0])) :: (([] : va_W) ++ blkNa u1.1 u1.2 ++ blkPr u2.1 u2.2 ++ blkDa u3.1 u3.2 ++ [(q4, .inl (c4, (8, .inl (fun _ => 0))))] ++ [(q5, .inl (c5, (8, .inl (fun _ => 0))))] ++ [(q6, .inl (c6, (8, .inl (fun _ => 0))))] ++ [(q7, .inl (c7, (4, .inl (fun _ => 0))))] ++ [(q8, .inl (c8, (8, .inl (fun _ => 0))))] ++ [(q9, .inl (c9, (8, .inl (fun _ => 0))))] ++ [(q10, .inl (c10, (8, .inl (fun _ => 0))))] ++ [(q11, .inl (c11, (8, .inl (fun _ => 0))))])) H := hP
  have hD : va_D A ((h0, .inr (8, [.ref (u1.1 0), .ref (u2.1 0), .ref (u3.1 0), .ref q4, .ref q5, .ref q6, .ref q7, .ref q8, .ref q9, .ref q10, .ref q11, .null, .null, .int 0, .int 0, .int 0, .int 0, .int 0, .int 0])) :: (([] : va_W) ++ blkNa u1.1 u1.2 ++ blkPr u2.1 u2.2 ++ blkDa u3.1 u3.2 ++ [(q4, .inl (c4, (8, .inl (fun _ => 0))))] ++ [(q5, .inl (c5, (8, .inl (fun _ => 0))))] ++ [(q6, .inl (c6, (8, .inl (fun _ => 0))))] ++ [(q7, .inl (c7, (4, .inl (fun _ => 0))))] ++ [(q8, .inl (c8, (8, .inl (fun _ => 0))))] ++ [(q9, .inl (c9, (8, .inl (fun _ => 0))))] ++ [(q10, .inl (c10, (8, .inl (fun _ => 0))))] ++ [(q11, .inl (c11, (8, .inl (fun _ => 0))))])) := hD
  refine lv_aload_n hx hb dI_Tw_100 rfl (lv_at hl 0 rfl) ?_
  refine lv_bipush hx hb dI_Tw_101 (v := nI 8) rfl ?_
  refine va_newa (atype := .int) (a0 := (8, .inl (fun _ => 0))) (N' := 8) (ty := .int) hx hb (hts (.arrayClass .int) (List.mem_cons_of_mem _ (mTBm 1 48 rfl rfl))) rfl hK hP hD hS hA (ha_int 8) (nI_pos (by decide)) (nI_clamp (by decide)) (Nat.le_of_ble_eq_true rfl) (Nat.le_of_ble_eq_true rfl) (Nat.le_of_ble_eq_true rfl) dI_Tw_103 (fun q12 c12 H hK hP hD hS => ?_)
  have hK : va_K D vwCl (([] : List (ClassId × FieldType)) ++ tysNa u1.2 ++ tysPr u2.2 ++ tysDa u3.2 ++ [(c4, .int)] ++ [(c5, .int)] ++ [(c6, .int)] ++ [(c7, .int)] ++ [(c8, .int)] ++ [(c9, .int)] ++ [(c10, .int)] ++ [(c11, .int)] ++ [(c12, .int)]) s := hK
  have hP : va_P D vwCl ((h0, .inr (8, [.ref (u1.1 0), .ref (u2.1 0), .ref (u3.1 0), .ref q4, .ref q5, .ref q6, .ref q7, .ref q8, .ref q9, .ref q10, .ref q11, .null, .null, .int 0, .int 0, .int 0, .int 0, .int 0, .int 0])) :: (([] : va_W) ++ blkNa u1.1 u1.2 ++ blkPr u2.1 u2.2 ++ blkDa u3.1 u3.2 ++ [(q4, .inl (c4, (8, .inl (fun _ => 0))))] ++ [(q5, .inl (c5, (8, .inl (fun _ => 0))))] ++ [(q6, .inl (c6, (8, .inl (fun _ => 0))))] ++ [(q7, .inl (c7, (4, .inl (fun _ => 0))))] ++ [(q8, .inl (c8, (8, .inl (fun _ => 0))))] ++ [(q9, .inl (c9, (8, .inl (fun _ => 0))))] ++ [(q10, .inl (c10, (8, .inl (fun _ => 0))))] ++ [(q11, .inl (c11, (8, .inl (fun _ => 0))))] ++ [(q12, .inl (c12, (8, .inl (fun _ => 0))))])) H := hP
  have hD : va_D A ((h0, .inr (8, [.ref (u1.1 0), .ref (u2.1 0), .ref (u3.1 0), .ref q4, .ref q5, .ref q6, .ref q7, .ref q8, .ref q9, .ref q10, .ref q11, .null, .null, .int 0, .int 0, .int 0, .int 0, .int 0, .int 0])) :: (([] : va_W) ++ blkNa u1.1 u1.2 ++ blkPr u2.1 u2.2 ++ blkDa u3.1 u3.2 ++ [(q4, .inl (c4, (8, .inl (fun _ => 0))))] ++ [(q5, .inl (c5, (8, .inl (fun _ => 0))))] ++ [(q6, .inl (c6, (8, .inl (fun _ => 0))))] ++ [(q7, .inl (c7, (4, .inl (fun _ => 0))))] ++ [(q8, .inl (c8, (8, .inl (fun _ => 0))))] ++ [(q9, .inl (c9, (8, .inl (fun _ => 0))))] ++ [(q10, .inl (c10, (8, .inl (fun _ => 0))))] ++ [(q11, .inl (c11, (8, .inl (fun _ => 0))))] ++ [(q12, .inl (c12, (8, .inl (fun _ => 0))))])) := hD
  refine va_putF (D := D) (ci := 8) (v := .ref q12) (ty := (.array .int)) (C := RX8) (T := TX8) (N := 19) hx hb hts2 lay1 _ lay3 lay4 hown hK hP hD hS 0 rfl rfl 11 (by decide) (hts2 (.fieldLink RX8 57 RX8 "flour" "[I") (mTBm 2 55 rfl rfl)) (fun _ h9 => h9) rfl hin rfl (by decide +kernel) rfl rfl (Nat.le_of_ble_eq_true rfl) dI_Tw_105 (fun H locs hP hD hS => ?_)
  have hP : va_P D vwCl ((h0, .inr (8, [.ref (u1.1 0), .ref (u2.1 0), .ref (u3.1 0), .ref q4, .ref q5, .ref q6, .ref q7, .ref q8, .ref q9, .ref q10, .ref q11, .ref q12, .null, .int 0, .int 0, .int 0, .int 0, .int 0, .int 0])) :: (([] : va_W) ++ blkNa u1.1 u1.2 ++ blkPr u2.1 u2.2 ++ blkDa u3.1 u3.2 ++ [(q4, .inl (c4, (8, .inl (fun _ => 0))))] ++ [(q5, .inl (c5, (8, .inl (fun _ => 0))))] ++ [(q6, .inl (c6, (8, .inl (fun _ => 0))))] ++ [(q7, .inl (c7, (4, .inl (fun _ => 0))))] ++ [(q8, .inl (c8, (8, .inl (fun _ => 0))))] ++ [(q9, .inl (c9, (8, .inl (fun _ => 0))))] ++ [(q10, .inl (c10, (8, .inl (fun _ => 0))))] ++ [(q11, .inl (c11, (8, .inl (fun _ => 0))))] ++ [(q12, .inl (c12, (8, .inl (fun _ => 0))))])) H := hP
  have hD : va_D A ((h0, .inr (8, [.ref (u1.1 0), .ref (u2.1 0), .ref (u3.1 0), .ref q4, .ref q5, .ref q6, .ref q7, .ref q8, .ref q9, .ref q10, .ref q11, .ref q12, .null, .int 0, .int 0, .int 0, .int 0, .int 0, .int 0])) :: (([] : va_W) ++ blkNa u1.1 u1.2 ++ blkPr u2.1 u2.2 ++ blkDa u3.1 u3.2 ++ [(q4, .inl (c4, (8, .inl (fun _ => 0))))] ++ [(q5, .inl (c5, (8, .inl (fun _ => 0))))] ++ [(q6, .inl (c6, (8, .inl (fun _ => 0))))] ++ [(q7, .inl (c7, (4, .inl (fun _ => 0))))] ++ [(q8, .inl (c8, (8, .inl (fun _ => 0))))] ++ [(q9, .inl (c9, (8, .inl (fun _ => 0))))] ++ [(q10, .inl (c10, (8, .inl (fun _ => 0))))] ++ [(q11, .inl (c11, (8, .inl (fun _ => 0))))] ++ [(q12, .inl (c12, (8, .inl (fun _ => 0))))])) := hD
  refine lv_aload_n hx hb dI_Tw_108 rfl (lv_at hl 0 rfl) ?_
  refine lv_bipush hx hb dI_Tw_109 (v := nI 8) rfl ?_
  refine va_newa (atype := .int) (a0 := (8, .inl (fun _ => 0))) (N' := 8) (ty := .int) hx hb (hts (.arrayClass .int) (List.mem_cons_of_mem _ (mTBm 1 48 rfl rfl))) rfl hK hP hD hS hA (ha_int 8) (nI_pos (by decide)) (nI_clamp (by decide)) (Nat.le_of_ble_eq_true rfl) (Nat.le_of_ble_eq_true rfl) (Nat.le_of_ble_eq_true rfl) dI_Tw_111 (fun q13 c13 H hK hP hD hS => ?_)
  have hK : va_K D vwCl (([] : List (ClassId × FieldType)) ++ tysNa u1.2 ++ tysPr u2.2 ++ tysDa u3.2 ++ [(c4, .int)] ++ [(c5, .int)] ++ [(c6, .int)] ++ [(c7, .int)] ++ [(c8, .int)] ++ [(c9, .int)] ++ [(c10, .int)] ++ [(c11, .int)] ++ [(c12, .int)] ++ [(c13, .int)]) s := hK
  have hP : va_P D vwCl ((h0, .inr (8, [.ref (u1.1 0), .ref (u2.1 0), .ref (u3.1 0), .ref q4, .ref q5, .ref q6, .ref q7, .ref q8, .ref q9, .ref q10, .ref q11, .ref q12, .null, .int 0, .int 0, .int 0, .int 0, .int 0, .int 0])) :: (([] : va_W) ++ blkNa u1.1 u1.2 ++ blkPr u2.1 u2.2 ++ blkDa u3.1 u3.2 ++ [(q4, .inl (c4, (8, .inl (fun _ => 0))))] ++ [(q5, .inl (c5, (8, .inl (fun _ => 0))))] ++ [(q6, .inl (c6, (8, .inl (fun _ => 0))))] ++ [(q7, .inl (c7, (4, .inl (fun _ => 0))))] ++ [(q8, .inl (c8, (8, .inl (fun _ => 0))))] ++ [(q9, .inl (c9, (8, .inl (fun _ => 0))))] ++ [(q10, .inl (c10, (8, .inl (fun _ => 0))))] ++ [(q11, .inl (c11, (8, .inl (fun _ => 0))))] ++ [(q12, .inl (c12, (8, .inl (fun _ => 0))))] ++ [(q13, .inl (c13, (8, .inl (fun _ => 0))))])) H := hP
  have hD : va_D A ((h0, .inr (8, [.ref (u1.1 0), .ref (u2.1 0), .ref (u3.1 0), .ref q4, .ref q5, .ref q6, .ref q7, .ref q8, .ref q9, .ref q10, .ref q11, .ref q12, .null, .int 0, .int 0, .int 0, .int 0, .int 0, .int 0])) :: (([] : va_W) ++ blkNa u1.1 u1.2 ++ blkPr u2.1 u2.2 ++ blkDa u3.1 u3.2 ++ [(q4, .inl (c4, (8, .inl (fun _ => 0))))] ++ [(q5, .inl (c5, (8, .inl (fun _ => 0))))] ++ [(q6, .inl (c6, (8, .inl (fun _ => 0))))] ++ [(q7, .inl (c7, (4, .inl (fun _ => 0))))] ++ [(q8, .inl (c8, (8, .inl (fun _ => 0))))] ++ [(q9, .inl (c9, (8, .inl (fun _ => 0))))] ++ [(q10, .inl (c10, (8, .inl (fun _ => 0))))] ++ [(q11, .inl (c11, (8, .inl (fun _ => 0))))] ++ [(q12, .inl (c12, (8, .inl (fun _ => 0))))] ++ [(q13, .inl (c13, (8, .inl (fun _ => 0))))])) := hD
  refine va_putF (D := D) (ci := 8) (v := .ref q13) (ty := (.array .int)) (C := RX8) (T := TX8) (N := 19) hx hb hts2 lay1 _ lay3 lay4 hown hK hP hD hS 0 rfl rfl 12 (by decide) (hts2 (.fieldLink RX8 60 RX8 "came" "[I") (mTBm 2 57 rfl rfl)) (fun _ h9 => h9) rfl hin rfl (by decide +kernel) rfl rfl (Nat.le_of_ble_eq_true rfl) dI_Tw_113 (fun H locs hP hD hS => ?_)
  have hP : va_P D vwCl ((h0, .inr (8, [.ref (u1.1 0), .ref (u2.1 0), .ref (u3.1 0), .ref q4, .ref q5, .ref q6, .ref q7, .ref q8, .ref q9, .ref q10, .ref q11, .ref q12, .ref q13, .int 0, .int 0, .int 0, .int 0, .int 0, .int 0])) :: (([] : va_W) ++ blkNa u1.1 u1.2 ++ blkPr u2.1 u2.2 ++ blkDa u3.1 u3.2 ++ [(q4, .inl (c4, (8, .inl (fun _ => 0))))] ++ [(q5, .inl (c5, (8, .inl (fun _ => 0))))] ++ [(q6, .inl (c6, (8, .inl (fun _ => 0))))] ++ [(q7, .inl (c7, (4, .inl (fun _ => 0))))] ++ [(q8, .inl (c8, (8, .inl (fun _ => 0))))] ++ [(q9, .inl (c9, (8, .inl (fun _ => 0))))] ++ [(q10, .inl (c10, (8, .inl (fun _ => 0))))] ++ [(q11, .inl (c11, (8, .inl (fun _ => 0))))] ++ [(q12, .inl (c12, (8, .inl (fun _ => 0))))] ++ [(q13, .inl (c13, (8, .inl (fun _ => 0))))])) H := hP
  have hD : va_D A ((h0, .inr (8, [.ref (u1.1 0), .ref (u2.1 0), .ref (u3.1 0), .ref q4, .ref q5, .ref q6, .ref q7, .ref q8, .ref q9, .ref q10, .ref q11, .ref q12, .ref q13, .int 0, .int 0, .int 0, .int 0, .int 0, .int 0])) :: (([] : va_W) ++ blkNa u1.1 u1.2 ++ blkPr u2.1 u2.2 ++ blkDa u3.1 u3.2 ++ [(q4, .inl (c4, (8, .inl (fun _ => 0))))] ++ [(q5, .inl (c5, (8, .inl (fun _ => 0))))] ++ [(q6, .inl (c6, (8, .inl (fun _ => 0))))] ++ [(q7, .inl (c7, (4, .inl (fun _ => 0))))] ++ [(q8, .inl (c8, (8, .inl (fun _ => 0))))] ++ [(q9, .inl (c9, (8, .inl (fun _ => 0))))] ++ [(q10, .inl (c10, (8, .inl (fun _ => 0))))] ++ [(q11, .inl (c11, (8, .inl (fun _ => 0))))] ++ [(q12, .inl (c12, (8, .inl (fun _ => 0))))] ++ [(q13, .inl (c13, (8, .inl (fun _ => 0))))])) := hD
  refine W.widen (k := 24) (n := 823) (by decide) (by decide) ?_
  exact W.vret hx hb hr (fun t ht hW => ⟨⟨((jnN 1 (fun _ => h0) (jnN 2 u1.1 (jnN 9 u2.1 (jnN 3 u3.1 (jnN 1 (fun _ => q4) (jnN 1 (fun _ => q5) (jnN 1 (fun _ => q6) (jnN 1 (fun _ => q7) (jnN 1 (fun _ => q8) (jnN 1 (fun _ => q9) (jnN 1 (fun _ => q10) (jnN 1 (fun _ => q11) (jnN 1 (fun _ => q12) (jnN 1 (fun _ => q13) (fun _ => 0))))))))))))))), (jnN 1 (fun _ => 0) (jnN 2 u1.2 (jnN 9 u2.2 (jnN 3 u3.2 (jnN 1 (fun _ => c4) (jnN 1 (fun _ => c5) (jnN 1 (fun _ => c6) (jnN 1 (fun _ => c7) (jnN 1 (fun _ => c8) (jnN 1 (fun _ => c9) (jnN 1 (fun _ => c10) (jnN 1 (fun _ => c11) (jnN 1 (fun _ => c12) (jnN 1 (fun _ => c13) (fun _ => 0)))))))))))))))), rfl, rfl, by rw [ht]; exact hP, va_K.moved hW.alike hK, hD⟩, hS.F ht⟩) hS.2.2 dI_Tw_116
