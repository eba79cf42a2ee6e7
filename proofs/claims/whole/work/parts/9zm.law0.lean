/-! the law from its entry -/
def R_law : String := "PaperBreadLaw"
def lw_P (b : Addr) (xs : List Int32) (args : Array Value) (s : State) : Prop := args = #[.ref b] ∧ s.IntsAt b xs ∧ xs.length ≤ 3072 ∧ (Jvm.Cond.and given_1 narrow_1).before args s = true
def lw_Q (_ : Array Value) (s : State) (o : Outcome) (t : State) : Prop := o = .returned (some (.int 1)) ∧ Framed s o t [] 600000 7302250
def lw_Z (below : List Frame) (a : Array Value) (s : State) : State → Prop := fun t => ∃ o, t.status = .running ∧ Ended t below o ∧ lw_Q a s o t
/-- the law's own end, with 1 on the stack, nothing written that was there before, its room as the claim has it -/
theorem lw_ret {p : Program} {l : Launch} {e : Env} {s : State} {m : MethodId} {below : List Frame} {meth : Method} {c : Code} {b : Nat} (hx : p.tables.exec = Jvm.exec) (hb : c.code = code) (hr : meth.sig.returnType = ret) (hlocks : meth.locks = false) {pc : Nat} {H : Heap} {ls : Array Slot} (hdg : decode code pc = .ok (.ireturn, 1)) : W p l e room_1 s m #[Value.ref b] below meth c H [] 600000 7302250 (lw_Z below #[Value.ref b] s) (F0 m pc ls [.int 1]) := by
  intro T hT X
  obtain ⟨fs, hret, hrun, hended, hW, hframe⟩ := X.leave (v := some (.int 1)) (hlocks := hlocks) (fun h => by rw [hr] at h; cases h)
  have hmeth' : T.vm.method? m = some meth := X.method'
  refine ⟨T.setFrames fs, ?_, .returned (some (.int 1)), hrun, hended, rfl, ⟨_, rfl⟩, hW, hframe⟩
  jvm_step X.here [X.here.top, hx, hb, hdg, hmeth', hr, ret, narrow_b1]
  (try refine ⟨rfl, ?_⟩); (try refine ⟨rfl, ?_⟩)
  first | (intro acts; rw [hret _ acts rfl rfl rfl]) | rw [hret _ _ rfl rfl rfl]
  exact Steps.refl _
/-- what holds at the law's entry: the machine, the code, the tables' words (any of lw_tbl by 'hts w (by decide +kernel)'), the script of L ints xs at the cell b, what the Statement gives of the start (any of its parts by flat_of_before) -/
def lw_At (p : Program) (s : State) (m : MethodId) (meth : Method) (c : Code) (b L : Nat) (xs : Nat → Int32) : Prop :=
  p.tables.exec = Jvm.exec ∧ c.code = code ∧ meth.sig.returnType = ret ∧ c.maxLocals = 4 ∧ s.vm.findClass R_law = some m.cls ∧ (∀ w ∈ lw_tbl, w.before #[Value.ref b] s = true) ∧ va_X b L xs s s.heap ∧ b < s.heap.size ∧ meth.locks = false ∧ (Jvm.Cond.and given_1 narrow_1).before #[Value.ref b] s = true
abbrev RX12 : String := "PaperBreadLaw"
def tyI : List (Nat × Nat) := [(2, 3), (3, 0), (4, 0), (7, 1), (8, 3), (9, 0), (12, 3), (14, 0), (15, 0), (16, 0), (17, 0), (18, 0), (19, 2), (20, 0), (21, 0), (23, 0), (24, 0), (25, 0), (26, 0), (27, 0), (28, 0), (29, 0), (30, 0), (31, 0), (32, 0), (33, 0), (34, 0), (37, 3), (39, 0), (40, 0), (41, 0), (42, 0), (43, 0), (44, 2), (45, 0), (46, 0), (48, 0), (49, 0), (50, 0), (51, 0), (52, 0), (53, 0), (54, 0), (55, 0), (56, 0), (57, 0), (58, 0), (59, 0), (60, 4), (62, 0), (63, 0), (64, 0), (65, 0), (66, 0), (67, 0), (69, 0), (70, 0), (71, 0), (72, 0), (75, 0), (76, 0), (77, 0), (78, 0), (79, 0), (80, 0), (81, 0), (84, 0), (85, 0), (86, 0), (87, 0), (88, 0), (89, 0), (90, 0), (93, 3), (95, 0), (96, 0), (97, 0), (98, 0), (99, 0), (100, 2), (101, 0), (102, 0), (104, 0), (105, 0), (106, 0), (107, 0), (108, 0), (109, 0), (110, 0), (111, 0), (112, 0), (113, 0), (114, 0), (115, 0), (118, 3), (120, 0), (121, 0), (122, 0), (123, 0), (124, 0), (125, 2), (126, 0), (127, 0), (129, 0), (130, 0), (131, 0), (132, 0), (133, 0), (134, 0), (135, 0), (136, 0), (137, 0), (138, 0), (139, 0), (140, 0), (143, 3), (145, 0), (146, 0), (147, 0), (148, 0), (149, 0), (150, 2), (151, 0), (152, 0), (154, 0), (155, 0), (156, 0), (157, 0), (158, 0), (159, 0), (160, 0), (161, 0), (162, 0), (163, 0), (164, 0), (165, 0), (167, 0), (168, 0), (169, 3), (170, 1), (171, 0), (172, 0), (173, 3), (174, 0), (175, 0), (176, 0), (177, 0), (178, 0), (179, 0), (180, 0), (181, 0), (182, 0), (183, 0)]
theorem tyI_ok : (List.range 184).all (fun k => match mS0[k]? with | some sh => !(decide (sh.1 < 5)) || tyI.contains (k, sh.1) | none => true) = true := by decide +kernel
theorem mS0_len : mS0.length = 184 := by decide +kernel
theorem tyI_eq (cA : Nat → ClassId) : tysPb cA ++ tysMo (shN cA 166) = tyI.map (fun p => (cA p.1, mTyA p.2)) := by
  simp only [tysPb, tysTr, tysTe, tysTo, tysTw, tysNa, tysPr, tysDa, tysSh, tysNe, tysLi, tysMo, tyI, List.nil_append, List.cons_append, List.append_assoc, List.map_cons, List.map_nil]
  rfl
theorem mTys0 (cA : Nat → ClassId) : mTys (tysPb cA ++ tysMo (shN cA 166)) cA := by
  intro k sh hk h5
  have hk184 : k < 184 := by
    have := (List.getElem?_eq_some_iff.mp hk).1
    rw [mS0_len] at this
    exact this
  have h1 : (!(decide (sh.1 < 5)) || tyI.contains (k, sh.1)) = true := by
    have h0 := List.all_eq_true.mp tyI_ok k (List.mem_range.mpr hk184)
    rw [hk] at h0
    exact h0
  rw [decide_eq_true h5] at h1
  have h2 : (k, sh.1) ∈ tyI := List.contains_iff_mem.mp h1
  rw [tyI_eq]
  exact List.mem_iff_getElem?.mp (List.mem_map.mpr ⟨(k, sh.1), h2, rfl⟩)
def adL (b a1 : Nat) (u v : Nat → Nat) : Nat → Nat := fun i => bif Nat.beq i 1000 then b else bif Nat.beq i 1001 then a1 else jnN 166 u v i
theorem pb_ad (b a1 : Nat) (u v : Nat → Nat) (w z : Nat → ClassId) : blkPb (adL b a1 u v) (jnN 166 w z) = blkPb u w := by
  have e : (fun j : Nat => (([91, 116, 141] : List Nat)[j]?).map (adL b a1 u v)) = (fun j : Nat => (([91, 116, 141] : List Nat)[j]?).map u) := by
    funext j
    match j with
    | 0 => rfl
    | 1 => rfl
    | 2 => rfl
    | j + 3 => rfl
  unfold blkPb
  rw [e]
  rfl
theorem mo_ad (b a1 : Nat) (u v : Nat → Nat) (w z : Nat → ClassId) : blkMo (shN (adL b a1 u v) 166) (shN (jnN 166 w z) 166) = blkMo v z := rfl
theorem ty_ad (w z : Nat → ClassId) : tysPb (jnN 166 w z) ++ tysMo (shN (jnN 166 w z) 166) = tysPb w ++ tysMo z := rfl
theorem lw_known {args : Array Value} {s : State} (hts2 : ∀ w ∈ mTB, w.before args s = true) : ∃ D : va_G, va_K D vwCl [] s := by
  obtain ⟨c0, i0, h0⟩ := u_known (C := RX0) (T := TX0) (N := 6) (n := 6) hts2 (mLay (show vwCl[0]? = some (RX0, TX0, 6) from rfl)).1 (hts2 (.instantiable RX0 6) (mTBm 1 235 rfl rfl))
  obtain ⟨c1, i1, h1⟩ := u_known (C := RX1) (T := TX1) (N := 9) (n := 9) hts2 (mLay (show vwCl[1]? = some (RX1, TX1, 9) from rfl)).1 (hts2 (.instantiable RX1 9) (mTBm 2 181 rfl rfl))
  obtain ⟨c2, i2, h2⟩ := u_known (C := RX2) (T := TX2) (N := 1) (n := 1) hts2 (mLay (show vwCl[2]? = some (RX2, TX2, 1) from rfl)).1 (hts2 (.instantiable RX2 1) (mTBm 1 165 rfl rfl))
  obtain ⟨c3, i3, h3⟩ := u_known (C := RX3) (T := TX3) (N := 5) (n := 5) hts2 (mLay (show vwCl[3]? = some (RX3, TX3, 5) from rfl)).1 (hts2 (.instantiable RX3 5) (mTBm 2 157 rfl rfl))
  obtain ⟨c4, i4, h4⟩ := u_known (C := RX4) (T := TX4) (N := 9) (n := 9) hts2 (mLay (show vwCl[4]? = some (RX4, TX4, 9) from rfl)).1 (hts2 (.instantiable RX4 9) (mTBm 1 175 rfl rfl))
  obtain ⟨c5, i5, h5⟩ := u_known (C := RX5) (T := TX5) (N := 7) (n := 7) hts2 (mLay (show vwCl[5]? = some (RX5, TX5, 7) from rfl)).1 (hts2 (.instantiable RX5 7) (mTBm 2 120 rfl rfl))
  obtain ⟨c6, i6, h6⟩ := u_known (C := RX6) (T := TX6) (N := 2) (n := 2) hts2 (mLay (show vwCl[6]? = some (RX6, TX6, 2) from rfl)).1 (hts2 (.instantiable RX6 2) (mTBm 1 50 rfl rfl))
  obtain ⟨c7, i7, h7⟩ := u_known (C := RX7) (T := TX7) (N := 11) (n := 11) hts2 (mLay (show vwCl[7]? = some (RX7, TX7, 11) from rfl)).1 (hts2 (.instantiable RX7 11) (mTBm 1 56 rfl rfl))
  obtain ⟨c8, i8, h8⟩ := u_known (C := RX8) (T := TX8) (N := 19) (n := 19) hts2 (mLay (show vwCl[8]? = some (RX8, TX8, 19) from rfl)).1 (hts2 (.instantiable RX8 19) (mTBm 1 159 rfl rfl))
  obtain ⟨c9, i9, h9⟩ := u_known (C := RX9) (T := TX9) (N := 3) (n := 3) hts2 (mLay (show vwCl[9]? = some (RX9, TX9, 3) from rfl)).1 (hts2 (.instantiable RX9 3) (mTBm 1 29 rfl rfl))
  obtain ⟨c10, i10, h10⟩ := u_known (C := RX10) (T := TX10) (N := 16) (n := 16) hts2 (mLay (show vwCl[10]? = some (RX10, TX10, 16) from rfl)).1 (hts2 (.instantiable RX10 16) (mTBm 1 21 rfl rfl))
  obtain ⟨c11, i11, h11⟩ := u_known (C := RX11) (T := TX11) (N := 46) (n := 46) hts2 (mLay (show vwCl[11]? = some (RX11, TX11, 46) from rfl)).1 (hts2 (.instantiable RX11 46) (mTBm 6 54 rfl rfl))
  refine ⟨(fun k => ([c0, c1, c2, c3, c4, c5, c6, c7, c8, c9, c10, c11] : List ClassId).getD k c0, fun k => ([i0, i1, i2, i3, i4, i5, i6, i7, i8, i9, i10, i11] : List (Nat → Nat)).getD k i0), fun k q hq => ?_, fun k q h => by simp at h⟩
  match k, hq with
  | 0, hq => cases hq; exact h0
  | 1, hq => cases hq; exact h1
  | 2, hq => cases hq; exact h2
  | 3, hq => cases hq; exact h3
  | 4, hq => cases hq; exact h4
  | 5, hq => cases hq; exact h5
  | 6, hq => cases hq; exact h6
  | 7, hq => cases hq; exact h7
  | 8, hq => cases hq; exact h8
  | 9, hq => cases hq; exact h9
  | 10, hq => cases hq; exact h10
  | 11, hq => cases hq; exact h11
  | k + 12, hq => cases hq
theorem kBy_in : ∀ j : Fin 133, (Cond.eq (.elem (.field (.string "PaperBread$Tokens" 19) "java/lang/String" "value" "[B") (.int (Int32.ofNat j.val))) (.int (kBy.getD j.val 0))) ∈ flatC (Jvm.Cond.and given_1 narrow_1) := by decide +kernel
theorem lw_text {args : Array Value} {s : State} {A : Nat → Prop} (hts : ∀ w ∈ lw_tbl, w.before args s = true) (hgv : (Jvm.Cond.and given_1 narrow_1).before args s = true) (hA : ∀ a : Nat, a < s.heap.size → ¬ A a) : ∃ (aS aV : Nat) (x : Value), x.category = 1 ∧ kJ aS aV x A s s.heap ∧ vk_R RX7 19 kTx aS s := by
  have hs := flat_of_before _ hgv
  have hZ1 : va_Z "java/lang/String" "COMPACT_STRINGS" "Z" (.int 1) A s s.heap := va_Zof (hts (.laysStatic "java/lang/String" "COMPACT_STRINGS" "Z") (mChunk_in 1 _ (List.mem_of_getElem? (i := 71) rfl))) (hts (.initialized "java/lang/String") (mChunk_in 1 _ (List.mem_of_getElem? (i := 6) rfl))) (va_eqt (hs (.eq (.static "java/lang/String" "COMPACT_STRINGS" "Z") (.int 1)) (by decide +kernel))) hA
  obtain ⟨x, hx, hxr⟩ := Cond.isRef_spec (hs (.isRef (.static "jdk/internal/util/Preconditions" "SIOOBE_FORMATTER" "Ljava/util/function/BiFunction;")) (by decide +kernel))
  have hZ2 : va_Z "jdk/internal/util/Preconditions" "SIOOBE_FORMATTER" "Ljava/util/function/BiFunction;" x A s s.heap := va_Zof (hts (.laysStatic "jdk/internal/util/Preconditions" "SIOOBE_FORMATTER" "Ljava/util/function/BiFunction;") (mChunk_in 1 _ (List.mem_of_getElem? (i := 87) rfl))) (hts (.initialized "jdk/internal/util/Preconditions") (mChunk_in 1 _ (List.mem_of_getElem? (i := 8) rfl))) hx hA
  obtain ⟨adK, adV, hS, hE⟩ := vk_Sof (args := args) (s := s) (N := 1) (tm := fun _ => (.string "PaperBread$Tokens" 19)) (len := [133]) (byt := [kBy]) (A := A)
    (fun i hi => by rw [show i = 0 by omega]; decide)
    (fun i hi => hs (.exactly (.string "PaperBread$Tokens" 19) "java/lang/String") (by decide +kernel))
    (fun i hi => hs (.eq (.field (.string "PaperBread$Tokens" 19) "java/lang/String" "coder" "B") (.int 0)) (by decide +kernel))
    (fun i hi => hs (.arrayOf (.field (.string "PaperBread$Tokens" 19) "java/lang/String" "value" "[B") .byte) (by decide +kernel))
    (fun i hi => by rw [show i = 0 by omega]; exact hs (.eq (.length (.field (.string "PaperBread$Tokens" 19) "java/lang/String" "value" "[B")) (.int 133)) (by decide +kernel))
    (fun i hi j hj => by
      have e : i = 0 := by omega
      subst e
      exact hs _ (kBy_in ⟨j, hj⟩))
    (fun i j hi hj hne => absurd (show i = j by omega) hne) hA
  refine ⟨adK 0, adV 0, x, ?_, ⟨hZ1, hZ2, fun i hi => ?_, fun i j hi hj _ => by omega⟩, vk_R.of (hts (.stringRef RX7 19 kTx) (mChunk_in 1 _ (List.mem_of_getElem? (i := 61) rfl))) (hE 0 (by decide))⟩
  · cases x <;> first | rfl | cases hxr
  · have e : i = 0 := by omega
    subst e
    exact hS.1 0 hi
theorem len_lt {args : Array Value} {s : State} {tm : Term} {v : Value} {b : Nat} {cell : Cell} (hv : (Term.length tm).eval args s none [] s = some v) (ht : tm.eval args s none [] s = some (.ref b)) (harr : s.arrayAt? b = some cell) : cell.slots.size < 2 ^ 31 := by
  simp only [Term.eval, ht, harr, Option.bind_eq_bind, Option.bind_some] at hv
  by_cases hlt : cell.slots.size < 2147483648
  · exact hlt
  · simp [hlt] at hv
theorem lw_starts {args : Array Value} {s : State} {A : Nat → Prop} (hts : ∀ w ∈ lw_tbl, w.before args s = true) (hgv : (Jvm.Cond.and given_1 narrow_1).before args s = true) (hA : ∀ a : Nat, a < s.heap.size → ¬ A a) : ∃ a1 : Nat, va_X a1 4 mStarts s s.heap ∧ a1 < s.heap.size ∧ va_Z "PaperBread$Names" "STARTS" "[I" (.ref a1) A s s.heap := by
  have hs := flat_of_before _ hgv
  have hlen := va_eqt (hs (.eq (.length (.static "PaperBread$Names" "STARTS" "[I")) (.int 4)) (by decide +kernel))
  obtain ⟨t, ht, hT⟩ := va_Tof (tm := (.static "PaperBread$Names" "STARTS" "[I")) (ty := .int) (N := 4) (f := fun j => .int (mStarts j)) (A := A) (by decide) (hs (.arrayOf (.static "PaperBread$Names" "STARTS" "[I") .int) (by decide +kernel)) hlen (fun j hj => by
    match j, hj with
    | 0, _ => exact va_eqt (hs (.eq (.elem (.static "PaperBread$Names" "STARTS" "[I") (.int 0)) (.int 0)) (by decide +kernel))
    | 1, _ => exact va_eqt (hs (.eq (.elem (.static "PaperBread$Names" "STARTS" "[I") (.int 1)) (.int 8)) (by decide +kernel))
    | 2, _ => exact va_eqt (hs (.eq (.elem (.static "PaperBread$Names" "STARTS" "[I") (.int 2)) (.int 12)) (by decide +kernel))
    | 3, _ => exact va_eqt (hs (.eq (.elem (.static "PaperBread$Names" "STARTS" "[I") (.int 3)) (.int 20)) (by decide +kernel))
    | j + 4, hj => exact absurd hj (by omega)) hA
  obtain ⟨b', cell', ht', harr, -⟩ := Term.length_spec hlen
  have hsz : cell'.slots.size < 2 ^ 31 := len_lt hlen ht' harr
  obtain ⟨hcell, -, -, -⟩ := State.arrayAt?_spec harr
  have et : t = b' := by
    rw [ht] at ht'
    cases ht'
    rfl
  subst et
  obtain ⟨cell, h1, h2, h3, h4, h5, h6, h7⟩ := hT
  have ec : cell = cell' := by
    rw [h1] at hcell
    exact Option.some.inj hcell
  subst ec
  have e4 : cell.slots.size = 4 := by
    have h8 := congrArg Int32.toInt h5
    rw [show cell.slots.size.toInt32 = Int32.ofNat cell.slots.size from rfl, Int32.toInt_ofNat_small hsz] at h8
    have h9 : (Int32.ofNat 4).toInt = 4 := by decide
    rw [h9] at h8
    omega
  exact ⟨t, ⟨cell, h1, h2, h3, e4, h6⟩, (Array.getElem?_eq_some_iff.mp h1).1, va_Zof (hts (.laysStatic "PaperBread$Names" "STARTS" "[I") (mChunk_in 4 _ (List.mem_of_getElem? (i := 13) rfl))) (hts (.initialized "PaperBread$Names") (mChunk_in 1 _ (List.mem_of_getElem? (i := 11) rfl))) ht hA⟩
theorem lw_nest {args : Array Value} {s : State} (hts : ∀ w ∈ lw_tbl, w.before args s = true) : kN s := fun w hw => by
  simp only [kNw, List.mem_cons, List.not_mem_nil, or_false] at hw
  rcases hw with rfl | rfl | rfl | rfl | rfl | rfl | rfl | rfl | rfl
  · exact va_Nw.of rfl (hts _ (mChunk_in 1 _ (List.mem_of_getElem? (i := 51) rfl)))
  · exact va_Nw.of rfl (hts _ (mChunk_in 1 _ (List.mem_of_getElem? (i := 160) rfl)))
  · exact va_Nw.of rfl (hts _ (mChunk_in 1 _ (List.mem_of_getElem? (i := 166) rfl)))
  · exact va_Nw.of rfl (hts _ (mChunk_in 1 _ (List.mem_of_getElem? (i := 176) rfl)))
  · exact va_Nw.of rfl (hts _ (mChunk_in 1 _ (List.mem_of_getElem? (i := 236) rfl)))
  · exact va_Nw.of rfl (hts _ (mChunk_in 2 _ (List.mem_of_getElem? (i := 121) rfl)))
  · exact va_Nw.of rfl (hts _ (mChunk_in 2 _ (List.mem_of_getElem? (i := 158) rfl)))
  · exact va_Nw.of rfl (hts _ (mChunk_in 2 _ (List.mem_of_getElem? (i := 182) rfl)))
  · exact va_Nw.of rfl (hts _ (mChunk_in 2 _ (List.mem_of_getElem? (i := 187) rfl)))
