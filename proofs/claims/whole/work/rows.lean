section
-- ===== PART A: goes FIRST, ahead of the names: the tables' words, and 'selects' of the private methods out of them =====
/-- a private method of a class that the tables say can be made, by its rows of tables_1 -/
def lw_okq (q : MethodName × Nat) : Prop := (q.1.cls ≠ "java/lang/invoke/MethodHandle" ∧ q.1.cls ≠ "java/lang/invoke/VarHandle") ∧ Cond.instantiable q.1.cls q.2 ∈ tables_1 ∧ Cond.privateMethod q.1 ∈ tables_1 ∧ Cond.instanceMethod q.1 ∈ tables_1
theorem lw_p0 : lw_okq (⟨"PaperBread", "deny", "(I)Z"⟩, 16) := ⟨⟨by decide +kernel, by decide +kernel⟩, List.mem_of_getElem? (i := 21) (by decide +kernel), List.mem_of_getElem? (i := 536) (by decide +kernel), List.mem_of_getElem? (i := 537) (by decide +kernel)⟩
theorem lw_p1 : lw_okq (⟨"PaperBread", "grant", "()Z"⟩, 16) := ⟨⟨by decide +kernel, by decide +kernel⟩, List.mem_of_getElem? (i := 21) (by decide +kernel), List.mem_of_getElem? (i := 545) (by decide +kernel), List.mem_of_getElem? (i := 546) (by decide +kernel)⟩
theorem lw_p2 : lw_okq (⟨"PaperBread", "refuse", "(I)I"⟩, 16) := ⟨⟨by decide +kernel, by decide +kernel⟩, List.mem_of_getElem? (i := 21) (by decide +kernel), List.mem_of_getElem? (i := 580) (by decide +kernel), List.mem_of_getElem? (i := 581) (by decide +kernel)⟩
theorem lw_p3 : lw_okq (⟨"PaperBread$Tokens", "cutWord", "()V"⟩, 11) := ⟨⟨by decide +kernel, by decide +kernel⟩, List.mem_of_getElem? (i := 56) (by decide +kernel), List.mem_of_getElem? (i := 655) (by decide +kernel), List.mem_of_getElem? (i := 656) (by decide +kernel)⟩
theorem lw_p4 : lw_okq (⟨"PaperBread$Tokens", "cutNumber", "()V"⟩, 11) := ⟨⟨by decide +kernel, by decide +kernel⟩, List.mem_of_getElem? (i := 56) (by decide +kernel), List.mem_of_getElem? (i := 659) (by decide +kernel), List.mem_of_getElem? (i := 660) (by decide +kernel)⟩
theorem lw_p5 : lw_okq (⟨"PaperBread$Texts", "readPerson", "(LPaperBread$Town;)V"⟩, 2) := ⟨⟨by decide +kernel, by decide +kernel⟩, List.mem_of_getElem? (i := 50) (by decide +kernel), List.mem_of_getElem? (i := 671) (by decide +kernel), List.mem_of_getElem? (i := 672) (by decide +kernel)⟩
theorem lw_p6 : lw_okq (⟨"PaperBread$Texts", "beginPart", "(IZ)V"⟩, 2) := ⟨⟨by decide +kernel, by decide +kernel⟩, List.mem_of_getElem? (i := 50) (by decide +kernel), List.mem_of_getElem? (i := 675) (by decide +kernel), List.mem_of_getElem? (i := 676) (by decide +kernel)⟩
theorem lw_p7 : lw_okq (⟨"PaperBread$Tokens", "seesName", "()Z"⟩, 11) := ⟨⟨by decide +kernel, by decide +kernel⟩, List.mem_of_getElem? (i := 56) (by decide +kernel), List.mem_of_getElem? (i := 700) (by decide +kernel), List.mem_of_getElem? (i := 701) (by decide +kernel)⟩
theorem lw_p8 : lw_okq (⟨"PaperBread$Texts", "endsPart", "()Z"⟩, 2) := ⟨⟨by decide +kernel, by decide +kernel⟩, List.mem_of_getElem? (i := 50) (by decide +kernel), List.mem_of_getElem? (i := 717) (by decide +kernel), List.mem_of_getElem? (i := 718) (by decide +kernel)⟩
theorem lw_p9 : lw_okq (⟨"PaperBread$Texts", "readOven", "(LPaperBread$Town;)V"⟩, 2) := ⟨⟨by decide +kernel, by decide +kernel⟩, List.mem_of_getElem? (i := 50) (by decide +kernel), List.mem_of_getElem? (i := 735) (by decide +kernel), List.mem_of_getElem? (i := 736) (by decide +kernel)⟩
theorem lw_p10 : lw_okq (⟨"PaperBread$Texts", "readLoaf", "(LPaperBread$Town;)V"⟩, 2) := ⟨⟨by decide +kernel, by decide +kernel⟩, List.mem_of_getElem? (i := 50) (by decide +kernel), List.mem_of_getElem? (i := 743) (by decide +kernel), List.mem_of_getElem? (i := 744) (by decide +kernel)⟩
theorem lw_p11 : lw_okq (⟨"PaperBread$Texts", "readTownPromise", "(LPaperBread$Town;)V"⟩, 2) := ⟨⟨by decide +kernel, by decide +kernel⟩, List.mem_of_getElem? (i := 50) (by decide +kernel), List.mem_of_getElem? (i := 763) (by decide +kernel), List.mem_of_getElem? (i := 764) (by decide +kernel)⟩
theorem lw_p12 : lw_okq (⟨"PaperBread$Texts", "readPromise", "(LPaperBread$Names;)V"⟩, 2) := ⟨⟨by decide +kernel, by decide +kernel⟩, List.mem_of_getElem? (i := 50) (by decide +kernel), List.mem_of_getElem? (i := 767) (by decide +kernel), List.mem_of_getElem? (i := 768) (by decide +kernel)⟩
theorem lw_p13 : lw_okq (⟨"PaperBread", "keepFault", "()V"⟩, 16) := ⟨⟨by decide +kernel, by decide +kernel⟩, List.mem_of_getElem? (i := 21) (by decide +kernel), List.mem_of_getElem? (i := 780) (by decide +kernel), List.mem_of_getElem? (i := 781) (by decide +kernel)⟩
theorem lw_p14 : lw_okq (⟨"PaperBread", "answer", "(I)I"⟩, 16) := ⟨⟨by decide +kernel, by decide +kernel⟩, List.mem_of_getElem? (i := 21) (by decide +kernel), List.mem_of_getElem? (i := 807) (by decide +kernel), List.mem_of_getElem? (i := 808) (by decide +kernel)⟩
theorem lw_p15 : lw_okq (⟨"PaperBread$Texts", "readEnd", "(LPaperBread$Days;)V"⟩, 2) := ⟨⟨by decide +kernel, by decide +kernel⟩, List.mem_of_getElem? (i := 50) (by decide +kernel), List.mem_of_getElem? (i := 821) (by decide +kernel), List.mem_of_getElem? (i := 822) (by decide +kernel)⟩
def lw_privs_1 : List (MethodName × Nat) := [(⟨"PaperBread", "deny", "(I)Z"⟩, 16), (⟨"PaperBread", "grant", "()Z"⟩, 16), (⟨"PaperBread", "refuse", "(I)I"⟩, 16), (⟨"PaperBread$Tokens", "cutWord", "()V"⟩, 11), (⟨"PaperBread$Tokens", "cutNumber", "()V"⟩, 11), (⟨"PaperBread$Texts", "readPerson", "(LPaperBread$Town;)V"⟩, 2), (⟨"PaperBread$Texts", "beginPart", "(IZ)V"⟩, 2), (⟨"PaperBread$Tokens", "seesName", "()Z"⟩, 11), (⟨"PaperBread$Texts", "endsPart", "()Z"⟩, 2), (⟨"PaperBread$Texts", "readOven", "(LPaperBread$Town;)V"⟩, 2), (⟨"PaperBread$Texts", "readLoaf", "(LPaperBread$Town;)V"⟩, 2), (⟨"PaperBread$Texts", "readTownPromise", "(LPaperBread$Town;)V"⟩, 2), (⟨"PaperBread$Texts", "readPromise", "(LPaperBread$Names;)V"⟩, 2), (⟨"PaperBread", "keepFault", "()V"⟩, 16), (⟨"PaperBread", "answer", "(I)I"⟩, 16), (⟨"PaperBread$Texts", "readEnd", "(LPaperBread$Days;)V"⟩, 2)]
theorem lw_r1 : ∀ q ∈ lw_privs_1, lw_okq q := List.forall_mem_cons.mpr ⟨lw_p0, List.forall_mem_cons.mpr ⟨lw_p1, List.forall_mem_cons.mpr ⟨lw_p2, List.forall_mem_cons.mpr ⟨lw_p3, List.forall_mem_cons.mpr ⟨lw_p4, List.forall_mem_cons.mpr ⟨lw_p5, List.forall_mem_cons.mpr ⟨lw_p6, List.forall_mem_cons.mpr ⟨lw_p7, List.forall_mem_cons.mpr ⟨lw_p8, List.forall_mem_cons.mpr ⟨lw_p9, List.forall_mem_cons.mpr ⟨lw_p10, List.forall_mem_cons.mpr ⟨lw_p11, List.forall_mem_cons.mpr ⟨lw_p12, List.forall_mem_cons.mpr ⟨lw_p13, List.forall_mem_cons.mpr ⟨lw_p14, List.forall_mem_cons.mpr ⟨lw_p15, fun _ h => absurd h List.not_mem_nil⟩⟩⟩⟩⟩⟩⟩⟩⟩⟩⟩⟩⟩⟩⟩⟩
theorem lw_p16 : lw_okq (⟨"PaperBread$Texts", "mayStepHere", "(ILPaperBread$Days;)Z"⟩, 2) := ⟨⟨by decide +kernel, by decide +kernel⟩, List.mem_of_getElem? (i := 50) (by decide +kernel), List.mem_of_getElem? (i := 833) (by decide +kernel), List.mem_of_getElem? (i := 834) (by decide +kernel)⟩
theorem lw_p17 : lw_okq (⟨"PaperBread$Texts", "readStep", "(ILPaperBread$Names;)V"⟩, 2) := ⟨⟨by decide +kernel, by decide +kernel⟩, List.mem_of_getElem? (i := 50) (by decide +kernel), List.mem_of_getElem? (i := 843) (by decide +kernel), List.mem_of_getElem? (i := 844) (by decide +kernel)⟩
theorem lw_p18 : lw_okq (⟨"PaperBread$Texts", "readTest", "(LPaperBread$Names;)V"⟩, 2) := ⟨⟨by decide +kernel, by decide +kernel⟩, List.mem_of_getElem? (i := 50) (by decide +kernel), List.mem_of_getElem? (i := 847) (by decide +kernel), List.mem_of_getElem? (i := 848) (by decide +kernel)⟩
theorem lw_p19 : lw_okq (⟨"PaperBread$Texts", "addStep", "(ILPaperBread$Days;)V"⟩, 2) := ⟨⟨by decide +kernel, by decide +kernel⟩, List.mem_of_getElem? (i := 50) (by decide +kernel), List.mem_of_getElem? (i := 855) (by decide +kernel), List.mem_of_getElem? (i := 856) (by decide +kernel)⟩
theorem lw_p20 : lw_okq (⟨"PaperBread$Share", "lineUp", "()V"⟩, 7) := ⟨⟨by decide +kernel, by decide +kernel⟩, List.mem_of_getElem? (i := 360) (by decide +kernel), List.mem_of_getElem? (i := 914) (by decide +kernel), List.mem_of_getElem? (i := 915) (by decide +kernel)⟩
theorem lw_p21 : lw_okq (⟨"PaperBread", "wouldGet", "(IIZ)I"⟩, 16) := ⟨⟨by decide +kernel, by decide +kernel⟩, List.mem_of_getElem? (i := 21) (by decide +kernel), List.mem_of_getElem? (i := 977) (by decide +kernel), List.mem_of_getElem? (i := 978) (by decide +kernel)⟩
theorem lw_p22 : lw_okq (⟨"PaperBread", "tell", "(JJ)V"⟩, 16) := ⟨⟨by decide +kernel, by decide +kernel⟩, List.mem_of_getElem? (i := 21) (by decide +kernel), List.mem_of_getElem? (i := 1004) (by decide +kernel), List.mem_of_getElem? (i := 1005) (by decide +kernel)⟩
theorem lw_p23 : lw_okq (⟨"PaperBread$Netting", "measure", "(LPaperBread$Promises;)V"⟩, 5) := ⟨⟨by decide +kernel, by decide +kernel⟩, List.mem_of_getElem? (i := 397) (by decide +kernel), List.mem_of_getElem? (i := 1034) (by decide +kernel), List.mem_of_getElem? (i := 1035) (by decide +kernel)⟩
theorem lw_p24 : lw_okq (⟨"PaperBread$Netting", "way", "(II)I"⟩, 5) := ⟨⟨by decide +kernel, by decide +kernel⟩, List.mem_of_getElem? (i := 397) (by decide +kernel), List.mem_of_getElem? (i := 1040) (by decide +kernel), List.mem_of_getElem? (i := 1041) (by decide +kernel)⟩
theorem lw_p25 : lw_okq (⟨"PaperBread$Netting", "nextOnWay", "(LPaperBread$Promises;III)I"⟩, 5) := ⟨⟨by decide +kernel, by decide +kernel⟩, List.mem_of_getElem? (i := 397) (by decide +kernel), List.mem_of_getElem? (i := 1044) (by decide +kernel), List.mem_of_getElem? (i := 1045) (by decide +kernel)⟩
theorem lw_p26 : lw_okq (⟨"PaperBread$Share", "gathered", "(I)I"⟩, 7) := ⟨⟨by decide +kernel, by decide +kernel⟩, List.mem_of_getElem? (i := 360) (by decide +kernel), List.mem_of_getElem? (i := 1070) (by decide +kernel), List.mem_of_getElem? (i := 1071) (by decide +kernel)⟩
theorem lw_p27 : lw_okq (⟨"PaperBread", "firstBrokenDay", "(III)I"⟩, 16) := ⟨⟨by decide +kernel, by decide +kernel⟩, List.mem_of_getElem? (i := 21) (by decide +kernel), List.mem_of_getElem? (i := 1098) (by decide +kernel), List.mem_of_getElem? (i := 1099) (by decide +kernel)⟩
theorem lw_p28 : lw_okq (⟨"PaperBread$Living", "goOn", "(LPaperBread$Town;I)I"⟩, 9) := ⟨⟨by decide +kernel, by decide +kernel⟩, List.mem_of_getElem? (i := 421) (by decide +kernel), List.mem_of_getElem? (i := 1192) (by decide +kernel), List.mem_of_getElem? (i := 1193) (by decide +kernel)⟩
theorem lw_p29 : lw_okq (⟨"PaperBread$Living", "behindEnd", "(LPaperBread$Days;I)I"⟩, 9) := ⟨⟨by decide +kernel, by decide +kernel⟩, List.mem_of_getElem? (i := 421) (by decide +kernel), List.mem_of_getElem? (i := 1200) (by decide +kernel), List.mem_of_getElem? (i := 1201) (by decide +kernel)⟩
theorem lw_p30 : lw_okq (⟨"PaperBread$Living", "isDone", "(LPaperBread$Town;II)Z"⟩, 9) := ⟨⟨by decide +kernel, by decide +kernel⟩, List.mem_of_getElem? (i := 421) (by decide +kernel), List.mem_of_getElem? (i := 1213) (by decide +kernel), List.mem_of_getElem? (i := 1214) (by decide +kernel)⟩
theorem lw_p31 : lw_okq (⟨"PaperBread$Living", "hasBaked", "(LPaperBread$Town;I)Z"⟩, 9) := ⟨⟨by decide +kernel, by decide +kernel⟩, List.mem_of_getElem? (i := 421) (by decide +kernel), List.mem_of_getElem? (i := 1219) (by decide +kernel), List.mem_of_getElem? (i := 1220) (by decide +kernel)⟩
def lw_privs_2 : List (MethodName × Nat) := [(⟨"PaperBread$Texts", "mayStepHere", "(ILPaperBread$Days;)Z"⟩, 2), (⟨"PaperBread$Texts", "readStep", "(ILPaperBread$Names;)V"⟩, 2), (⟨"PaperBread$Texts", "readTest", "(LPaperBread$Names;)V"⟩, 2), (⟨"PaperBread$Texts", "addStep", "(ILPaperBread$Days;)V"⟩, 2), (⟨"PaperBread$Share", "lineUp", "()V"⟩, 7), (⟨"PaperBread", "wouldGet", "(IIZ)I"⟩, 16), (⟨"PaperBread", "tell", "(JJ)V"⟩, 16), (⟨"PaperBread$Netting", "measure", "(LPaperBread$Promises;)V"⟩, 5), (⟨"PaperBread$Netting", "way", "(II)I"⟩, 5), (⟨"PaperBread$Netting", "nextOnWay", "(LPaperBread$Promises;III)I"⟩, 5), (⟨"PaperBread$Share", "gathered", "(I)I"⟩, 7), (⟨"PaperBread", "firstBrokenDay", "(III)I"⟩, 16), (⟨"PaperBread$Living", "goOn", "(LPaperBread$Town;I)I"⟩, 9), (⟨"PaperBread$Living", "behindEnd", "(LPaperBread$Days;I)I"⟩, 9), (⟨"PaperBread$Living", "isDone", "(LPaperBread$Town;II)Z"⟩, 9), (⟨"PaperBread$Living", "hasBaked", "(LPaperBread$Town;I)Z"⟩, 9)]
theorem lw_r2 : ∀ q ∈ lw_privs_2, lw_okq q := List.forall_mem_cons.mpr ⟨lw_p16, List.forall_mem_cons.mpr ⟨lw_p17, List.forall_mem_cons.mpr ⟨lw_p18, List.forall_mem_cons.mpr ⟨lw_p19, List.forall_mem_cons.mpr ⟨lw_p20, List.forall_mem_cons.mpr ⟨lw_p21, List.forall_mem_cons.mpr ⟨lw_p22, List.forall_mem_cons.mpr ⟨lw_p23, List.forall_mem_cons.mpr ⟨lw_p24, List.forall_mem_cons.mpr ⟨lw_p25, List.forall_mem_cons.mpr ⟨lw_p26, List.forall_mem_cons.mpr ⟨lw_p27, List.forall_mem_cons.mpr ⟨lw_p28, List.forall_mem_cons.mpr ⟨lw_p29, List.forall_mem_cons.mpr ⟨lw_p30, List.forall_mem_cons.mpr ⟨lw_p31, fun _ h => absurd h List.not_mem_nil⟩⟩⟩⟩⟩⟩⟩⟩⟩⟩⟩⟩⟩⟩⟩⟩
theorem lw_p32 : lw_okq (⟨"PaperBread$Living", "hasWaited", "(LPaperBread$Town;I)Z"⟩, 9) := ⟨⟨by decide +kernel, by decide +kernel⟩, List.mem_of_getElem? (i := 421) (by decide +kernel), List.mem_of_getElem? (i := 1227) (by decide +kernel), List.mem_of_getElem? (i := 1228) (by decide +kernel)⟩
theorem lw_p33 : lw_okq (⟨"PaperBread$Living", "nextDraw", "()I"⟩, 9) := ⟨⟨by decide +kernel, by decide +kernel⟩, List.mem_of_getElem? (i := 421) (by decide +kernel), List.mem_of_getElem? (i := 1231) (by decide +kernel), List.mem_of_getElem? (i := 1232) (by decide +kernel)⟩
theorem lw_p34 : lw_okq (⟨"PaperBreadModel", "no", "(I)Z"⟩, 46) := ⟨⟨by decide +kernel, by decide +kernel⟩, List.mem_of_getElem? (i := 1254) (by decide +kernel), List.mem_of_getElem? (i := 1415) (by decide +kernel), List.mem_of_getElem? (i := 1416) (by decide +kernel)⟩
theorem lw_p35 : lw_okq (⟨"PaperBreadModel", "placed", "(II)I"⟩, 46) := ⟨⟨by decide +kernel, by decide +kernel⟩, List.mem_of_getElem? (i := 1254) (by decide +kernel), List.mem_of_getElem? (i := 1423) (by decide +kernel), List.mem_of_getElem? (i := 1424) (by decide +kernel)⟩
theorem lw_p36 : lw_okq (⟨"PaperBreadModel", "trayed", "(I)I"⟩, 46) := ⟨⟨by decide +kernel, by decide +kernel⟩, List.mem_of_getElem? (i := 1254) (by decide +kernel), List.mem_of_getElem? (i := 1427) (by decide +kernel), List.mem_of_getElem? (i := 1428) (by decide +kernel)⟩
theorem lw_p37 : lw_okq (⟨"PaperBreadModel", "lay", "(I)V"⟩, 46) := ⟨⟨by decide +kernel, by decide +kernel⟩, List.mem_of_getElem? (i := 1254) (by decide +kernel), List.mem_of_getElem? (i := 1447) (by decide +kernel), List.mem_of_getElem? (i := 1448) (by decide +kernel)⟩
theorem lw_p38 : lw_okq (⟨"PaperBreadModel", "opens", "(II)Z"⟩, 46) := ⟨⟨by decide +kernel, by decide +kernel⟩, List.mem_of_getElem? (i := 1254) (by decide +kernel), List.mem_of_getElem? (i := 1459) (by decide +kernel), List.mem_of_getElem? (i := 1460) (by decide +kernel)⟩
theorem lw_p39 : lw_okq (⟨"PaperBreadModel", "next", "()V"⟩, 46) := ⟨⟨by decide +kernel, by decide +kernel⟩, List.mem_of_getElem? (i := 1254) (by decide +kernel), List.mem_of_getElem? (i := 1463) (by decide +kernel), List.mem_of_getElem? (i := 1464) (by decide +kernel)⟩
theorem lw_p40 : lw_okq (⟨"PaperBreadModel", "look2", "(I)I"⟩, 46) := ⟨⟨by decide +kernel, by decide +kernel⟩, List.mem_of_getElem? (i := 1254) (by decide +kernel), List.mem_of_getElem? (i := 1467) (by decide +kernel), List.mem_of_getElem? (i := 1468) (by decide +kernel)⟩
theorem lw_p41 : lw_okq (⟨"PaperBreadModel", "isSignByte", "(I)Z"⟩, 46) := ⟨⟨by decide +kernel, by decide +kernel⟩, List.mem_of_getElem? (i := 1254) (by decide +kernel), List.mem_of_getElem? (i := 1479) (by decide +kernel), List.mem_of_getElem? (i := 1480) (by decide +kernel)⟩
theorem lw_p42 : lw_okq (⟨"PaperBreadModel", "isPerson", "()Z"⟩, 46) := ⟨⟨by decide +kernel, by decide +kernel⟩, List.mem_of_getElem? (i := 1254) (by decide +kernel), List.mem_of_getElem? (i := 1483) (by decide +kernel), List.mem_of_getElem? (i := 1484) (by decide +kernel)⟩
theorem lw_p43 : lw_okq (⟨"PaperBreadModel", "isWord", "(J)Z"⟩, 46) := ⟨⟨by decide +kernel, by decide +kernel⟩, List.mem_of_getElem? (i := 1254) (by decide +kernel), List.mem_of_getElem? (i := 1490) (by decide +kernel), List.mem_of_getElem? (i := 1491) (by decide +kernel)⟩
theorem lw_p44 : lw_okq (⟨"PaperBreadModel", "readPerson", "()V"⟩, 46) := ⟨⟨by decide +kernel, by decide +kernel⟩, List.mem_of_getElem? (i := 1254) (by decide +kernel), List.mem_of_getElem? (i := 1494) (by decide +kernel), List.mem_of_getElem? (i := 1495) (by decide +kernel)⟩
theorem lw_p45 : lw_okq (⟨"PaperBreadModel", "fail", "(II)V"⟩, 46) := ⟨⟨by decide +kernel, by decide +kernel⟩, List.mem_of_getElem? (i := 1254) (by decide +kernel), List.mem_of_getElem? (i := 1498) (by decide +kernel), List.mem_of_getElem? (i := 1499) (by decide +kernel)⟩
theorem lw_p46 : lw_okq (⟨"PaperBreadModel", "readNew", "(I)V"⟩, 46) := ⟨⟨by decide +kernel, by decide +kernel⟩, List.mem_of_getElem? (i := 1254) (by decide +kernel), List.mem_of_getElem? (i := 1502) (by decide +kernel), List.mem_of_getElem? (i := 1503) (by decide +kernel)⟩
theorem lw_p47 : lw_okq (⟨"PaperBreadModel", "isName", "()Z"⟩, 46) := ⟨⟨by decide +kernel, by decide +kernel⟩, List.mem_of_getElem? (i := 1254) (by decide +kernel), List.mem_of_getElem? (i := 1506) (by decide +kernel), List.mem_of_getElem? (i := 1507) (by decide +kernel)⟩
def lw_privs_3 : List (MethodName × Nat) := [(⟨"PaperBread$Living", "hasWaited", "(LPaperBread$Town;I)Z"⟩, 9), (⟨"PaperBread$Living", "nextDraw", "()I"⟩, 9), (⟨"PaperBreadModel", "no", "(I)Z"⟩, 46), (⟨"PaperBreadModel", "placed", "(II)I"⟩, 46), (⟨"PaperBreadModel", "trayed", "(I)I"⟩, 46), (⟨"PaperBreadModel", "lay", "(I)V"⟩, 46), (⟨"PaperBreadModel", "opens", "(II)Z"⟩, 46), (⟨"PaperBreadModel", "next", "()V"⟩, 46), (⟨"PaperBreadModel", "look2", "(I)I"⟩, 46), (⟨"PaperBreadModel", "isSignByte", "(I)Z"⟩, 46), (⟨"PaperBreadModel", "isPerson", "()Z"⟩, 46), (⟨"PaperBreadModel", "isWord", "(J)Z"⟩, 46), (⟨"PaperBreadModel", "readPerson", "()V"⟩, 46), (⟨"PaperBreadModel", "fail", "(II)V"⟩, 46), (⟨"PaperBreadModel", "readNew", "(I)V"⟩, 46), (⟨"PaperBreadModel", "isName", "()Z"⟩, 46)]
theorem lw_r3 : ∀ q ∈ lw_privs_3, lw_okq q := List.forall_mem_cons.mpr ⟨lw_p32, List.forall_mem_cons.mpr ⟨lw_p33, List.forall_mem_cons.mpr ⟨lw_p34, List.forall_mem_cons.mpr ⟨lw_p35, List.forall_mem_cons.mpr ⟨lw_p36, List.forall_mem_cons.mpr ⟨lw_p37, List.forall_mem_cons.mpr ⟨lw_p38, List.forall_mem_cons.mpr ⟨lw_p39, List.forall_mem_cons.mpr ⟨lw_p40, List.forall_mem_cons.mpr ⟨lw_p41, List.forall_mem_cons.mpr ⟨lw_p42, List.forall_mem_cons.mpr ⟨lw_p43, List.forall_mem_cons.mpr ⟨lw_p44, List.forall_mem_cons.mpr ⟨lw_p45, List.forall_mem_cons.mpr ⟨lw_p46, List.forall_mem_cons.mpr ⟨lw_p47, fun _ h => absurd h List.not_mem_nil⟩⟩⟩⟩⟩⟩⟩⟩⟩⟩⟩⟩⟩⟩⟩⟩
theorem lw_p48 : lw_okq (⟨"PaperBreadModel", "isKept", "()Z"⟩, 46) := ⟨⟨by decide +kernel, by decide +kernel⟩, List.mem_of_getElem? (i := 1254) (by decide +kernel), List.mem_of_getElem? (i := 1510) (by decide +kernel), List.mem_of_getElem? (i := 1511) (by decide +kernel)⟩
theorem lw_p49 : lw_okq (⟨"PaperBreadModel", "isPurse", "()Z"⟩, 46) := ⟨⟨by decide +kernel, by decide +kernel⟩, List.mem_of_getElem? (i := 1254) (by decide +kernel), List.mem_of_getElem? (i := 1514) (by decide +kernel), List.mem_of_getElem? (i := 1515) (by decide +kernel)⟩
theorem lw_p50 : lw_okq (⟨"PaperBreadModel", "isOven", "()Z"⟩, 46) := ⟨⟨by decide +kernel, by decide +kernel⟩, List.mem_of_getElem? (i := 1254) (by decide +kernel), List.mem_of_getElem? (i := 1518) (by decide +kernel), List.mem_of_getElem? (i := 1519) (by decide +kernel)⟩
theorem lw_p51 : lw_okq (⟨"PaperBreadModel", "isRain", "()Z"⟩, 46) := ⟨⟨by decide +kernel, by decide +kernel⟩, List.mem_of_getElem? (i := 1254) (by decide +kernel), List.mem_of_getElem? (i := 1522) (by decide +kernel), List.mem_of_getElem? (i := 1523) (by decide +kernel)⟩
theorem lw_p52 : lw_okq (⟨"PaperBreadModel", "isLoaf", "()Z"⟩, 46) := ⟨⟨by decide +kernel, by decide +kernel⟩, List.mem_of_getElem? (i := 1254) (by decide +kernel), List.mem_of_getElem? (i := 1526) (by decide +kernel), List.mem_of_getElem? (i := 1527) (by decide +kernel)⟩
theorem lw_p53 : lw_okq (⟨"PaperBreadModel", "isBy", "()Z"⟩, 46) := ⟨⟨by decide +kernel, by decide +kernel⟩, List.mem_of_getElem? (i := 1254) (by decide +kernel), List.mem_of_getElem? (i := 1530) (by decide +kernel), List.mem_of_getElem? (i := 1531) (by decide +kernel)⟩
theorem lw_p54 : lw_okq (⟨"PaperBreadModel", "isInWord", "()Z"⟩, 46) := ⟨⟨by decide +kernel, by decide +kernel⟩, List.mem_of_getElem? (i := 1254) (by decide +kernel), List.mem_of_getElem? (i := 1534) (by decide +kernel), List.mem_of_getElem? (i := 1535) (by decide +kernel)⟩
theorem lw_p55 : lw_okq (⟨"PaperBreadModel", "isOn", "()Z"⟩, 46) := ⟨⟨by decide +kernel, by decide +kernel⟩, List.mem_of_getElem? (i := 1254) (by decide +kernel), List.mem_of_getElem? (i := 1538) (by decide +kernel), List.mem_of_getElem? (i := 1539) (by decide +kernel)⟩
theorem lw_p56 : lw_okq (⟨"PaperBreadModel", "isSlices", "()Z"⟩, 46) := ⟨⟨by decide +kernel, by decide +kernel⟩, List.mem_of_getElem? (i := 1254) (by decide +kernel), List.mem_of_getElem? (i := 1542) (by decide +kernel), List.mem_of_getElem? (i := 1543) (by decide +kernel)⟩
theorem lw_p57 : lw_okq (⟨"PaperBreadModel", "isFlour", "()Z"⟩, 46) := ⟨⟨by decide +kernel, by decide +kernel⟩, List.mem_of_getElem? (i := 1254) (by decide +kernel), List.mem_of_getElem? (i := 1546) (by decide +kernel), List.mem_of_getElem? (i := 1547) (by decide +kernel)⟩
theorem lw_p58 : lw_okq (⟨"PaperBreadModel", "isOf", "()Z"⟩, 46) := ⟨⟨by decide +kernel, by decide +kernel⟩, List.mem_of_getElem? (i := 1254) (by decide +kernel), List.mem_of_getElem? (i := 1550) (by decide +kernel), List.mem_of_getElem? (i := 1551) (by decide +kernel)⟩
theorem lw_p59 : lw_okq (⟨"PaperBreadModel", "isFrom", "()Z"⟩, 46) := ⟨⟨by decide +kernel, by decide +kernel⟩, List.mem_of_getElem? (i := 1254) (by decide +kernel), List.mem_of_getElem? (i := 1554) (by decide +kernel), List.mem_of_getElem? (i := 1555) (by decide +kernel)⟩
theorem lw_p60 : lw_okq (⟨"PaperBreadModel", "isTo", "()Z"⟩, 46) := ⟨⟨by decide +kernel, by decide +kernel⟩, List.mem_of_getElem? (i := 1254) (by decide +kernel), List.mem_of_getElem? (i := 1558) (by decide +kernel), List.mem_of_getElem? (i := 1559) (by decide +kernel)⟩
theorem lw_p61 : lw_okq (⟨"PaperBreadModel", "isFor", "()Z"⟩, 46) := ⟨⟨by decide +kernel, by decide +kernel⟩, List.mem_of_getElem? (i := 1254) (by decide +kernel), List.mem_of_getElem? (i := 1562) (by decide +kernel), List.mem_of_getElem? (i := 1563) (by decide +kernel)⟩
theorem lw_p62 : lw_okq (⟨"PaperBreadModel", "stepWord", "()I"⟩, 46) := ⟨⟨by decide +kernel, by decide +kernel⟩, List.mem_of_getElem? (i := 1254) (by decide +kernel), List.mem_of_getElem? (i := 1566) (by decide +kernel), List.mem_of_getElem? (i := 1567) (by decide +kernel)⟩
theorem lw_p63 : lw_okq (⟨"PaperBreadModel", "isPromise", "()Z"⟩, 46) := ⟨⟨by decide +kernel, by decide +kernel⟩, List.mem_of_getElem? (i := 1254) (by decide +kernel), List.mem_of_getElem? (i := 1570) (by decide +kernel), List.mem_of_getElem? (i := 1571) (by decide +kernel)⟩
def lw_privs_4 : List (MethodName × Nat) := [(⟨"PaperBreadModel", "isKept", "()Z"⟩, 46), (⟨"PaperBreadModel", "isPurse", "()Z"⟩, 46), (⟨"PaperBreadModel", "isOven", "()Z"⟩, 46), (⟨"PaperBreadModel", "isRain", "()Z"⟩, 46), (⟨"PaperBreadModel", "isLoaf", "()Z"⟩, 46), (⟨"PaperBreadModel", "isBy", "()Z"⟩, 46), (⟨"PaperBreadModel", "isInWord", "()Z"⟩, 46), (⟨"PaperBreadModel", "isOn", "()Z"⟩, 46), (⟨"PaperBreadModel", "isSlices", "()Z"⟩, 46), (⟨"PaperBreadModel", "isFlour", "()Z"⟩, 46), (⟨"PaperBreadModel", "isOf", "()Z"⟩, 46), (⟨"PaperBreadModel", "isFrom", "()Z"⟩, 46), (⟨"PaperBreadModel", "isTo", "()Z"⟩, 46), (⟨"PaperBreadModel", "isFor", "()Z"⟩, 46), (⟨"PaperBreadModel", "stepWord", "()I"⟩, 46), (⟨"PaperBreadModel", "isPromise", "()Z"⟩, 46)]
theorem lw_r4 : ∀ q ∈ lw_privs_4, lw_okq q := List.forall_mem_cons.mpr ⟨lw_p48, List.forall_mem_cons.mpr ⟨lw_p49, List.forall_mem_cons.mpr ⟨lw_p50, List.forall_mem_cons.mpr ⟨lw_p51, List.forall_mem_cons.mpr ⟨lw_p52, List.forall_mem_cons.mpr ⟨lw_p53, List.forall_mem_cons.mpr ⟨lw_p54, List.forall_mem_cons.mpr ⟨lw_p55, List.forall_mem_cons.mpr ⟨lw_p56, List.forall_mem_cons.mpr ⟨lw_p57, List.forall_mem_cons.mpr ⟨lw_p58, List.forall_mem_cons.mpr ⟨lw_p59, List.forall_mem_cons.mpr ⟨lw_p60, List.forall_mem_cons.mpr ⟨lw_p61, List.forall_mem_cons.mpr ⟨lw_p62, List.forall_mem_cons.mpr ⟨lw_p63, fun _ h => absurd h List.not_mem_nil⟩⟩⟩⟩⟩⟩⟩⟩⟩⟩⟩⟩⟩⟩⟩⟩
theorem lw_p64 : lw_okq (⟨"PaperBreadModel", "testWord", "()I"⟩, 46) := ⟨⟨by decide +kernel, by decide +kernel⟩, List.mem_of_getElem? (i := 1254) (by decide +kernel), List.mem_of_getElem? (i := 1575) (by decide +kernel), List.mem_of_getElem? (i := 1576) (by decide +kernel)⟩
theorem lw_p65 : lw_okq (⟨"PaperBreadModel", "isEnd", "()Z"⟩, 46) := ⟨⟨by decide +kernel, by decide +kernel⟩, List.mem_of_getElem? (i := 1254) (by decide +kernel), List.mem_of_getElem? (i := 1579) (by decide +kernel), List.mem_of_getElem? (i := 1580) (by decide +kernel)⟩
theorem lw_p66 : lw_okq (⟨"PaperBreadModel", "wrong", "()V"⟩, 46) := ⟨⟨by decide +kernel, by decide +kernel⟩, List.mem_of_getElem? (i := 1254) (by decide +kernel), List.mem_of_getElem? (i := 1583) (by decide +kernel), List.mem_of_getElem? (i := 1584) (by decide +kernel)⟩
theorem lw_p67 : lw_okq (⟨"PaperBreadModel", "personNamed", "(I)I"⟩, 46) := ⟨⟨by decide +kernel, by decide +kernel⟩, List.mem_of_getElem? (i := 1254) (by decide +kernel), List.mem_of_getElem? (i := 1587) (by decide +kernel), List.mem_of_getElem? (i := 1588) (by decide +kernel)⟩
theorem lw_p68 : lw_okq (⟨"PaperBreadModel", "named", "(III)I"⟩, 46) := ⟨⟨by decide +kernel, by decide +kernel⟩, List.mem_of_getElem? (i := 1254) (by decide +kernel), List.mem_of_getElem? (i := 1591) (by decide +kernel), List.mem_of_getElem? (i := 1592) (by decide +kernel)⟩
theorem lw_p69 : lw_okq (⟨"PaperBreadModel", "ovenNamed", "(I)I"⟩, 46) := ⟨⟨by decide +kernel, by decide +kernel⟩, List.mem_of_getElem? (i := 1254) (by decide +kernel), List.mem_of_getElem? (i := 1595) (by decide +kernel), List.mem_of_getElem? (i := 1596) (by decide +kernel)⟩
theorem lw_p70 : lw_okq (⟨"PaperBreadModel", "loafNamed", "(I)I"⟩, 46) := ⟨⟨by decide +kernel, by decide +kernel⟩, List.mem_of_getElem? (i := 1254) (by decide +kernel), List.mem_of_getElem? (i := 1599) (by decide +kernel), List.mem_of_getElem? (i := 1600) (by decide +kernel)⟩
theorem lw_p71 : lw_okq (⟨"PaperBreadModel", "count", "(II)I"⟩, 46) := ⟨⟨by decide +kernel, by decide +kernel⟩, List.mem_of_getElem? (i := 1254) (by decide +kernel), List.mem_of_getElem? (i := 1603) (by decide +kernel), List.mem_of_getElem? (i := 1604) (by decide +kernel)⟩
theorem lw_p72 : lw_okq (⟨"PaperBreadModel", "readOven", "()V"⟩, 46) := ⟨⟨by decide +kernel, by decide +kernel⟩, List.mem_of_getElem? (i := 1254) (by decide +kernel), List.mem_of_getElem? (i := 1610) (by decide +kernel), List.mem_of_getElem? (i := 1611) (by decide +kernel)⟩
theorem lw_p73 : lw_okq (⟨"PaperBreadModel", "readLoaf", "()V"⟩, 46) := ⟨⟨by decide +kernel, by decide +kernel⟩, List.mem_of_getElem? (i := 1254) (by decide +kernel), List.mem_of_getElem? (i := 1614) (by decide +kernel), List.mem_of_getElem? (i := 1615) (by decide +kernel)⟩
theorem lw_p74 : lw_okq (⟨"PaperBreadModel", "must", "(Z)V"⟩, 46) := ⟨⟨by decide +kernel, by decide +kernel⟩, List.mem_of_getElem? (i := 1254) (by decide +kernel), List.mem_of_getElem? (i := 1618) (by decide +kernel), List.mem_of_getElem? (i := 1619) (by decide +kernel)⟩
theorem lw_p75 : lw_okq (⟨"PaperBreadModel", "readTold", "(II)I"⟩, 46) := ⟨⟨by decide +kernel, by decide +kernel⟩, List.mem_of_getElem? (i := 1254) (by decide +kernel), List.mem_of_getElem? (i := 1622) (by decide +kernel), List.mem_of_getElem? (i := 1623) (by decide +kernel)⟩
theorem lw_p76 : lw_okq (⟨"PaperBreadModel", "told", "(II)I"⟩, 46) := ⟨⟨by decide +kernel, by decide +kernel⟩, List.mem_of_getElem? (i := 1254) (by decide +kernel), List.mem_of_getElem? (i := 1626) (by decide +kernel), List.mem_of_getElem? (i := 1627) (by decide +kernel)⟩
theorem lw_p77 : lw_okq (⟨"PaperBreadModel", "readPromise", "()V"⟩, 46) := ⟨⟨by decide +kernel, by decide +kernel⟩, List.mem_of_getElem? (i := 1254) (by decide +kernel), List.mem_of_getElem? (i := 1631) (by decide +kernel), List.mem_of_getElem? (i := 1632) (by decide +kernel)⟩
theorem lw_p78 : lw_okq (⟨"PaperBreadModel", "readPart", "(II)V"⟩, 46) := ⟨⟨by decide +kernel, by decide +kernel⟩, List.mem_of_getElem? (i := 1254) (by decide +kernel), List.mem_of_getElem? (i := 1635) (by decide +kernel), List.mem_of_getElem? (i := 1636) (by decide +kernel)⟩
theorem lw_p79 : lw_okq (⟨"PaperBreadModel", "isSign", "(I)Z"⟩, 46) := ⟨⟨by decide +kernel, by decide +kernel⟩, List.mem_of_getElem? (i := 1254) (by decide +kernel), List.mem_of_getElem? (i := 1639) (by decide +kernel), List.mem_of_getElem? (i := 1640) (by decide +kernel)⟩
def lw_privs_5 : List (MethodName × Nat) := [(⟨"PaperBreadModel", "testWord", "()I"⟩, 46), (⟨"PaperBreadModel", "isEnd", "()Z"⟩, 46), (⟨"PaperBreadModel", "wrong", "()V"⟩, 46), (⟨"PaperBreadModel", "personNamed", "(I)I"⟩, 46), (⟨"PaperBreadModel", "named", "(III)I"⟩, 46), (⟨"PaperBreadModel", "ovenNamed", "(I)I"⟩, 46), (⟨"PaperBreadModel", "loafNamed", "(I)I"⟩, 46), (⟨"PaperBreadModel", "count", "(II)I"⟩, 46), (⟨"PaperBreadModel", "readOven", "()V"⟩, 46), (⟨"PaperBreadModel", "readLoaf", "()V"⟩, 46), (⟨"PaperBreadModel", "must", "(Z)V"⟩, 46), (⟨"PaperBreadModel", "readTold", "(II)I"⟩, 46), (⟨"PaperBreadModel", "told", "(II)I"⟩, 46), (⟨"PaperBreadModel", "readPromise", "()V"⟩, 46), (⟨"PaperBreadModel", "readPart", "(II)V"⟩, 46), (⟨"PaperBreadModel", "isSign", "(I)Z"⟩, 46)]
theorem lw_r5 : ∀ q ∈ lw_privs_5, lw_okq q := List.forall_mem_cons.mpr ⟨lw_p64, List.forall_mem_cons.mpr ⟨lw_p65, List.forall_mem_cons.mpr ⟨lw_p66, List.forall_mem_cons.mpr ⟨lw_p67, List.forall_mem_cons.mpr ⟨lw_p68, List.forall_mem_cons.mpr ⟨lw_p69, List.forall_mem_cons.mpr ⟨lw_p70, List.forall_mem_cons.mpr ⟨lw_p71, List.forall_mem_cons.mpr ⟨lw_p72, List.forall_mem_cons.mpr ⟨lw_p73, List.forall_mem_cons.mpr ⟨lw_p74, List.forall_mem_cons.mpr ⟨lw_p75, List.forall_mem_cons.mpr ⟨lw_p76, List.forall_mem_cons.mpr ⟨lw_p77, List.forall_mem_cons.mpr ⟨lw_p78, List.forall_mem_cons.mpr ⟨lw_p79, fun _ h => absurd h List.not_mem_nil⟩⟩⟩⟩⟩⟩⟩⟩⟩⟩⟩⟩⟩⟩⟩⟩
theorem lw_p80 : lw_okq (⟨"PaperBreadModel", "isWell", "()Z"⟩, 46) := ⟨⟨by decide +kernel, by decide +kernel⟩, List.mem_of_getElem? (i := 1254) (by decide +kernel), List.mem_of_getElem? (i := 1643) (by decide +kernel), List.mem_of_getElem? (i := 1644) (by decide +kernel)⟩
theorem lw_p81 : lw_okq (⟨"PaperBreadModel", "copy", "(II)V"⟩, 46) := ⟨⟨by decide +kernel, by decide +kernel⟩, List.mem_of_getElem? (i := 1254) (by decide +kernel), List.mem_of_getElem? (i := 1647) (by decide +kernel), List.mem_of_getElem? (i := 1648) (by decide +kernel)⟩
theorem lw_p82 : lw_okq (⟨"PaperBreadModel", "readStep", "(I)V"⟩, 46) := ⟨⟨by decide +kernel, by decide +kernel⟩, List.mem_of_getElem? (i := 1254) (by decide +kernel), List.mem_of_getElem? (i := 1655) (by decide +kernel), List.mem_of_getElem? (i := 1656) (by decide +kernel)⟩
theorem lw_p83 : lw_okq (⟨"PaperBreadModel", "readRest", "(I)V"⟩, 46) := ⟨⟨by decide +kernel, by decide +kernel⟩, List.mem_of_getElem? (i := 1254) (by decide +kernel), List.mem_of_getElem? (i := 1659) (by decide +kernel), List.mem_of_getElem? (i := 1660) (by decide +kernel)⟩
theorem lw_p84 : lw_okq (⟨"PaperBreadModel", "readTest", "(I)V"⟩, 46) := ⟨⟨by decide +kernel, by decide +kernel⟩, List.mem_of_getElem? (i := 1254) (by decide +kernel), List.mem_of_getElem? (i := 1663) (by decide +kernel), List.mem_of_getElem? (i := 1664) (by decide +kernel)⟩
theorem lw_p85 : lw_okq (⟨"PaperBreadModel", "bakedSet", "()I"⟩, 46) := ⟨⟨by decide +kernel, by decide +kernel⟩, List.mem_of_getElem? (i := 1254) (by decide +kernel), List.mem_of_getElem? (i := 1671) (by decide +kernel), List.mem_of_getElem? (i := 1672) (by decide +kernel)⟩
theorem lw_p86 : lw_okq (⟨"PaperBreadModel", "isBaked", "(I)Z"⟩, 46) := ⟨⟨by decide +kernel, by decide +kernel⟩, List.mem_of_getElem? (i := 1254) (by decide +kernel), List.mem_of_getElem? (i := 1675) (by decide +kernel), List.mem_of_getElem? (i := 1676) (by decide +kernel)⟩
theorem lw_p87 : lw_okq (⟨"PaperBreadModel", "refuse", "(I)I"⟩, 46) := ⟨⟨by decide +kernel, by decide +kernel⟩, List.mem_of_getElem? (i := 1254) (by decide +kernel), List.mem_of_getElem? (i := 1679) (by decide +kernel), List.mem_of_getElem? (i := 1680) (by decide +kernel)⟩
theorem lw_p88 : lw_okq (⟨"PaperBreadModel", "isPersonAt", "(I)Z"⟩, 46) := ⟨⟨by decide +kernel, by decide +kernel⟩, List.mem_of_getElem? (i := 1254) (by decide +kernel), List.mem_of_getElem? (i := 1687) (by decide +kernel), List.mem_of_getElem? (i := 1688) (by decide +kernel)⟩
theorem lw_p89 : lw_okq (⟨"PaperBreadModel", "isLoafAt", "(I)Z"⟩, 46) := ⟨⟨by decide +kernel, by decide +kernel⟩, List.mem_of_getElem? (i := 1254) (by decide +kernel), List.mem_of_getElem? (i := 1695) (by decide +kernel), List.mem_of_getElem? (i := 1696) (by decide +kernel)⟩
theorem lw_p90 : lw_okq (⟨"PaperBreadModel", "isPaper", "(I)Z"⟩, 46) := ⟨⟨by decide +kernel, by decide +kernel⟩, List.mem_of_getElem? (i := 1254) (by decide +kernel), List.mem_of_getElem? (i := 1699) (by decide +kernel), List.mem_of_getElem? (i := 1700) (by decide +kernel)⟩
theorem lw_p91 : lw_okq (⟨"PaperBreadModel", "isPromiseAt", "(I)Z"⟩, 46) := ⟨⟨by decide +kernel, by decide +kernel⟩, List.mem_of_getElem? (i := 1254) (by decide +kernel), List.mem_of_getElem? (i := 1707) (by decide +kernel), List.mem_of_getElem? (i := 1708) (by decide +kernel)⟩
theorem lw_p92 : lw_okq (⟨"PaperBreadModel", "holdsOf", "(II)I"⟩, 46) := ⟨⟨by decide +kernel, by decide +kernel⟩, List.mem_of_getElem? (i := 1254) (by decide +kernel), List.mem_of_getElem? (i := 1718) (by decide +kernel), List.mem_of_getElem? (i := 1719) (by decide +kernel)⟩
theorem lw_p93 : lw_okq (⟨"PaperBreadModel", "isOfLoaf", "(II)Z"⟩, 46) := ⟨⟨by decide +kernel, by decide +kernel⟩, List.mem_of_getElem? (i := 1254) (by decide +kernel), List.mem_of_getElem? (i := 1722) (by decide +kernel), List.mem_of_getElem? (i := 1723) (by decide +kernel)⟩
theorem lw_p94 : lw_okq (⟨"PaperBreadModel", "isMade", "(I)Z"⟩, 46) := ⟨⟨by decide +kernel, by decide +kernel⟩, List.mem_of_getElem? (i := 1254) (by decide +kernel), List.mem_of_getElem? (i := 1726) (by decide +kernel), List.mem_of_getElem? (i := 1727) (by decide +kernel)⟩
theorem lw_p95 : lw_okq (⟨"PaperBreadModel", "deepens", "()V"⟩, 46) := ⟨⟨by decide +kernel, by decide +kernel⟩, List.mem_of_getElem? (i := 1254) (by decide +kernel), List.mem_of_getElem? (i := 1734) (by decide +kernel), List.mem_of_getElem? (i := 1735) (by decide +kernel)⟩
def lw_privs_6 : List (MethodName × Nat) := [(⟨"PaperBreadModel", "isWell", "()Z"⟩, 46), (⟨"PaperBreadModel", "copy", "(II)V"⟩, 46), (⟨"PaperBreadModel", "readStep", "(I)V"⟩, 46), (⟨"PaperBreadModel", "readRest", "(I)V"⟩, 46), (⟨"PaperBreadModel", "readTest", "(I)V"⟩, 46), (⟨"PaperBreadModel", "bakedSet", "()I"⟩, 46), (⟨"PaperBreadModel", "isBaked", "(I)Z"⟩, 46), (⟨"PaperBreadModel", "refuse", "(I)I"⟩, 46), (⟨"PaperBreadModel", "isPersonAt", "(I)Z"⟩, 46), (⟨"PaperBreadModel", "isLoafAt", "(I)Z"⟩, 46), (⟨"PaperBreadModel", "isPaper", "(I)Z"⟩, 46), (⟨"PaperBreadModel", "isPromiseAt", "(I)Z"⟩, 46), (⟨"PaperBreadModel", "holdsOf", "(II)I"⟩, 46), (⟨"PaperBreadModel", "isOfLoaf", "(II)Z"⟩, 46), (⟨"PaperBreadModel", "isMade", "(I)Z"⟩, 46), (⟨"PaperBreadModel", "deepens", "()V"⟩, 46)]
theorem lw_r6 : ∀ q ∈ lw_privs_6, lw_okq q := List.forall_mem_cons.mpr ⟨lw_p80, List.forall_mem_cons.mpr ⟨lw_p81, List.forall_mem_cons.mpr ⟨lw_p82, List.forall_mem_cons.mpr ⟨lw_p83, List.forall_mem_cons.mpr ⟨lw_p84, List.forall_mem_cons.mpr ⟨lw_p85, List.forall_mem_cons.mpr ⟨lw_p86, List.forall_mem_cons.mpr ⟨lw_p87, List.forall_mem_cons.mpr ⟨lw_p88, List.forall_mem_cons.mpr ⟨lw_p89, List.forall_mem_cons.mpr ⟨lw_p90, List.forall_mem_cons.mpr ⟨lw_p91, List.forall_mem_cons.mpr ⟨lw_p92, List.forall_mem_cons.mpr ⟨lw_p93, List.forall_mem_cons.mpr ⟨lw_p94, List.forall_mem_cons.mpr ⟨lw_p95, fun _ h => absurd h List.not_mem_nil⟩⟩⟩⟩⟩⟩⟩⟩⟩⟩⟩⟩⟩⟩⟩⟩
theorem lw_p96 : lw_okq (⟨"PaperBreadModel", "turnOf", "(II)I"⟩, 46) := ⟨⟨by decide +kernel, by decide +kernel⟩, List.mem_of_getElem? (i := 1254) (by decide +kernel), List.mem_of_getElem? (i := 1746) (by decide +kernel), List.mem_of_getElem? (i := 1747) (by decide +kernel)⟩
theorem lw_p97 : lw_okq (⟨"PaperBreadModel", "lines", "(I)V"⟩, 46) := ⟨⟨by decide +kernel, by decide +kernel⟩, List.mem_of_getElem? (i := 1254) (by decide +kernel), List.mem_of_getElem? (i := 1755) (by decide +kernel), List.mem_of_getElem? (i := 1756) (by decide +kernel)⟩
theorem lw_p98 : lw_okq (⟨"PaperBreadModel", "deals", "(IZ)V"⟩, 46) := ⟨⟨by decide +kernel, by decide +kernel⟩, List.mem_of_getElem? (i := 1254) (by decide +kernel), List.mem_of_getElem? (i := 1763) (by decide +kernel), List.mem_of_getElem? (i := 1764) (by decide +kernel)⟩
theorem lw_p99 : lw_okq (⟨"PaperBreadModel", "comes", "(IZ)I"⟩, 46) := ⟨⟨by decide +kernel, by decide +kernel⟩, List.mem_of_getElem? (i := 1254) (by decide +kernel), List.mem_of_getElem? (i := 1767) (by decide +kernel), List.mem_of_getElem? (i := 1768) (by decide +kernel)⟩
theorem lw_p100 : lw_okq (⟨"PaperBreadModel", "getsOf", "(IIZ)I"⟩, 46) := ⟨⟨by decide +kernel, by decide +kernel⟩, List.mem_of_getElem? (i := 1254) (by decide +kernel), List.mem_of_getElem? (i := 1776) (by decide +kernel), List.mem_of_getElem? (i := 1777) (by decide +kernel)⟩
theorem lw_p101 : lw_okq (⟨"PaperBreadModel", "unmet", "(IZ)I"⟩, 46) := ⟨⟨by decide +kernel, by decide +kernel⟩, List.mem_of_getElem? (i := 1254) (by decide +kernel), List.mem_of_getElem? (i := 1784) (by decide +kernel), List.mem_of_getElem? (i := 1785) (by decide +kernel)⟩
theorem lw_p102 : lw_okq (⟨"PaperBreadModel", "owesOf", "(II)I"⟩, 46) := ⟨⟨by decide +kernel, by decide +kernel⟩, List.mem_of_getElem? (i := 1254) (by decide +kernel), List.mem_of_getElem? (i := 1788) (by decide +kernel), List.mem_of_getElem? (i := 1789) (by decide +kernel)⟩
theorem lw_p103 : lw_okq (⟨"PaperBreadModel", "fraction", "(JJ)Z"⟩, 46) := ⟨⟨by decide +kernel, by decide +kernel⟩, List.mem_of_getElem? (i := 1254) (by decide +kernel), List.mem_of_getElem? (i := 1797) (by decide +kernel), List.mem_of_getElem? (i := 1798) (by decide +kernel)⟩
theorem lw_p104 : lw_okq (⟨"PaperBreadModel", "netOf", "(I)I"⟩, 46) := ⟨⟨by decide +kernel, by decide +kernel⟩, List.mem_of_getElem? (i := 1254) (by decide +kernel), List.mem_of_getElem? (i := 1816) (by decide +kernel), List.mem_of_getElem? (i := 1817) (by decide +kernel)⟩
theorem lw_p105 : lw_okq (⟨"PaperBreadModel", "goesRound", "(III)Z"⟩, 46) := ⟨⟨by decide +kernel, by decide +kernel⟩, List.mem_of_getElem? (i := 1254) (by decide +kernel), List.mem_of_getElem? (i := 1831) (by decide +kernel), List.mem_of_getElem? (i := 1832) (by decide +kernel)⟩
theorem lw_p106 : lw_okq (⟨"PaperBreadModel", "isOpen", "(I)Z"⟩, 46) := ⟨⟨by decide +kernel, by decide +kernel⟩, List.mem_of_getElem? (i := 1254) (by decide +kernel), List.mem_of_getElem? (i := 1844) (by decide +kernel), List.mem_of_getElem? (i := 1845) (by decide +kernel)⟩
theorem lw_p107 : lw_okq (⟨"PaperBreadModel", "isHeld", "(I)Z"⟩, 46) := ⟨⟨by decide +kernel, by decide +kernel⟩, List.mem_of_getElem? (i := 1254) (by decide +kernel), List.mem_of_getElem? (i := 1852) (by decide +kernel), List.mem_of_getElem? (i := 1853) (by decide +kernel)⟩
theorem lw_p108 : lw_okq (⟨"PaperBreadModel", "isTray", "(I)Z"⟩, 46) := ⟨⟨by decide +kernel, by decide +kernel⟩, List.mem_of_getElem? (i := 1254) (by decide +kernel), List.mem_of_getElem? (i := 1860) (by decide +kernel), List.mem_of_getElem? (i := 1861) (by decide +kernel)⟩
theorem lw_p109 : lw_okq (⟨"PaperBreadModel", "numberOf", "(II)J"⟩, 46) := ⟨⟨by decide +kernel, by decide +kernel⟩, List.mem_of_getElem? (i := 1254) (by decide +kernel), List.mem_of_getElem? (i := 1866) (by decide +kernel), List.mem_of_getElem? (i := 1867) (by decide +kernel)⟩
theorem lw_p110 : lw_okq (⟨"PaperBreadModel", "makes", "(IIIII)I"⟩, 46) := ⟨⟨by decide +kernel, by decide +kernel⟩, List.mem_of_getElem? (i := 1254) (by decide +kernel), List.mem_of_getElem? (i := 1894) (by decide +kernel), List.mem_of_getElem? (i := 1895) (by decide +kernel)⟩
theorem lw_p111 : lw_okq (⟨"PaperBreadModel", "breaks", "(I)Z"⟩, 46) := ⟨⟨by decide +kernel, by decide +kernel⟩, List.mem_of_getElem? (i := 1254) (by decide +kernel), List.mem_of_getElem? (i := 1902) (by decide +kernel), List.mem_of_getElem? (i := 1903) (by decide +kernel)⟩
def lw_privs_7 : List (MethodName × Nat) := [(⟨"PaperBreadModel", "turnOf", "(II)I"⟩, 46), (⟨"PaperBreadModel", "lines", "(I)V"⟩, 46), (⟨"PaperBreadModel", "deals", "(IZ)V"⟩, 46), (⟨"PaperBreadModel", "comes", "(IZ)I"⟩, 46), (⟨"PaperBreadModel", "getsOf", "(IIZ)I"⟩, 46), (⟨"PaperBreadModel", "unmet", "(IZ)I"⟩, 46), (⟨"PaperBreadModel", "owesOf", "(II)I"⟩, 46), (⟨"PaperBreadModel", "fraction", "(JJ)Z"⟩, 46), (⟨"PaperBreadModel", "netOf", "(I)I"⟩, 46), (⟨"PaperBreadModel", "goesRound", "(III)Z"⟩, 46), (⟨"PaperBreadModel", "isOpen", "(I)Z"⟩, 46), (⟨"PaperBreadModel", "isHeld", "(I)Z"⟩, 46), (⟨"PaperBreadModel", "isTray", "(I)Z"⟩, 46), (⟨"PaperBreadModel", "numberOf", "(II)J"⟩, 46), (⟨"PaperBreadModel", "makes", "(IIIII)I"⟩, 46), (⟨"PaperBreadModel", "breaks", "(I)Z"⟩, 46)]
theorem lw_r7 : ∀ q ∈ lw_privs_7, lw_okq q := List.forall_mem_cons.mpr ⟨lw_p96, List.forall_mem_cons.mpr ⟨lw_p97, List.forall_mem_cons.mpr ⟨lw_p98, List.forall_mem_cons.mpr ⟨lw_p99, List.forall_mem_cons.mpr ⟨lw_p100, List.forall_mem_cons.mpr ⟨lw_p101, List.forall_mem_cons.mpr ⟨lw_p102, List.forall_mem_cons.mpr ⟨lw_p103, List.forall_mem_cons.mpr ⟨lw_p104, List.forall_mem_cons.mpr ⟨lw_p105, List.forall_mem_cons.mpr ⟨lw_p106, List.forall_mem_cons.mpr ⟨lw_p107, List.forall_mem_cons.mpr ⟨lw_p108, List.forall_mem_cons.mpr ⟨lw_p109, List.forall_mem_cons.mpr ⟨lw_p110, List.forall_mem_cons.mpr ⟨lw_p111, fun _ h => absurd h List.not_mem_nil⟩⟩⟩⟩⟩⟩⟩⟩⟩⟩⟩⟩⟩⟩⟩⟩
theorem lw_p112 : lw_okq (⟨"PaperBreadModel", "bakes", "(I)I"⟩, 46) := ⟨⟨by decide +kernel, by decide +kernel⟩, List.mem_of_getElem? (i := 1254) (by decide +kernel), List.mem_of_getElem? (i := 1910) (by decide +kernel), List.mem_of_getElem? (i := 1911) (by decide +kernel)⟩
theorem lw_p113 : lw_okq (⟨"PaperBreadModel", "isWetOven", "(I)Z"⟩, 46) := ⟨⟨by decide +kernel, by decide +kernel⟩, List.mem_of_getElem? (i := 1254) (by decide +kernel), List.mem_of_getElem? (i := 1914) (by decide +kernel), List.mem_of_getElem? (i := 1915) (by decide +kernel)⟩
theorem lw_p114 : lw_okq (⟨"PaperBreadModel", "eats", "(II)I"⟩, 46) := ⟨⟨by decide +kernel, by decide +kernel⟩, List.mem_of_getElem? (i := 1254) (by decide +kernel), List.mem_of_getElem? (i := 1927) (by decide +kernel), List.mem_of_getElem? (i := 1928) (by decide +kernel)⟩
theorem lw_p115 : lw_okq (⟨"PaperBreadModel", "pays", "(III)Z"⟩, 46) := ⟨⟨by decide +kernel, by decide +kernel⟩, List.mem_of_getElem? (i := 1254) (by decide +kernel), List.mem_of_getElem? (i := 1935) (by decide +kernel), List.mem_of_getElem? (i := 1936) (by decide +kernel)⟩
theorem lw_p116 : lw_okq (⟨"PaperBreadModel", "lives", "(I)V"⟩, 46) := ⟨⟨by decide +kernel, by decide +kernel⟩, List.mem_of_getElem? (i := 1254) (by decide +kernel), List.mem_of_getElem? (i := 1943) (by decide +kernel), List.mem_of_getElem? (i := 1944) (by decide +kernel)⟩
theorem lw_p117 : lw_okq (⟨"PaperBreadModel", "doAll", "(II)V"⟩, 46) := ⟨⟨by decide +kernel, by decide +kernel⟩, List.mem_of_getElem? (i := 1254) (by decide +kernel), List.mem_of_getElem? (i := 1947) (by decide +kernel), List.mem_of_getElem? (i := 1948) (by decide +kernel)⟩
theorem lw_p118 : lw_okq (⟨"PaperBreadModel", "doOne", "(I)V"⟩, 46) := ⟨⟨by decide +kernel, by decide +kernel⟩, List.mem_of_getElem? (i := 1254) (by decide +kernel), List.mem_of_getElem? (i := 1951) (by decide +kernel), List.mem_of_getElem? (i := 1952) (by decide +kernel)⟩
theorem lw_p119 : lw_okq (⟨"PaperBreadModel", "does", "(I)Z"⟩, 46) := ⟨⟨by decide +kernel, by decide +kernel⟩, List.mem_of_getElem? (i := 1254) (by decide +kernel), List.mem_of_getElem? (i := 1955) (by decide +kernel), List.mem_of_getElem? (i := 1956) (by decide +kernel)⟩
theorem lw_p120 : lw_okq (⟨"PaperBreadModel", "waits", "(I)Z"⟩, 46) := ⟨⟨by decide +kernel, by decide +kernel⟩, List.mem_of_getElem? (i := 1254) (by decide +kernel), List.mem_of_getElem? (i := 1959) (by decide +kernel), List.mem_of_getElem? (i := 1960) (by decide +kernel)⟩
theorem lw_p121 : lw_okq (⟨"PaperBreadModel", "draw", "()I"⟩, 46) := ⟨⟨by decide +kernel, by decide +kernel⟩, List.mem_of_getElem? (i := 1254) (by decide +kernel), List.mem_of_getElem? (i := 1963) (by decide +kernel), List.mem_of_getElem? (i := 1964) (by decide +kernel)⟩
theorem lw_p122 : lw_okq (⟨"PaperBreadModel", "isSo", "(I)Z"⟩, 46) := ⟨⟨by decide +kernel, by decide +kernel⟩, List.mem_of_getElem? (i := 1254) (by decide +kernel), List.mem_of_getElem? (i := 1968) (by decide +kernel), List.mem_of_getElem? (i := 1969) (by decide +kernel)⟩
def lw_privs_8 : List (MethodName × Nat) := [(⟨"PaperBreadModel", "bakes", "(I)I"⟩, 46), (⟨"PaperBreadModel", "isWetOven", "(I)Z"⟩, 46), (⟨"PaperBreadModel", "eats", "(II)I"⟩, 46), (⟨"PaperBreadModel", "pays", "(III)Z"⟩, 46), (⟨"PaperBreadModel", "lives", "(I)V"⟩, 46), (⟨"PaperBreadModel", "doAll", "(II)V"⟩, 46), (⟨"PaperBreadModel", "doOne", "(I)V"⟩, 46), (⟨"PaperBreadModel", "does", "(I)Z"⟩, 46), (⟨"PaperBreadModel", "waits", "(I)Z"⟩, 46), (⟨"PaperBreadModel", "draw", "()I"⟩, 46), (⟨"PaperBreadModel", "isSo", "(I)Z"⟩, 46)]
theorem lw_r8 : ∀ q ∈ lw_privs_8, lw_okq q := List.forall_mem_cons.mpr ⟨lw_p112, List.forall_mem_cons.mpr ⟨lw_p113, List.forall_mem_cons.mpr ⟨lw_p114, List.forall_mem_cons.mpr ⟨lw_p115, List.forall_mem_cons.mpr ⟨lw_p116, List.forall_mem_cons.mpr ⟨lw_p117, List.forall_mem_cons.mpr ⟨lw_p118, List.forall_mem_cons.mpr ⟨lw_p119, List.forall_mem_cons.mpr ⟨lw_p120, List.forall_mem_cons.mpr ⟨lw_p121, List.forall_mem_cons.mpr ⟨lw_p122, fun _ h => absurd h List.not_mem_nil⟩⟩⟩⟩⟩⟩⟩⟩⟩⟩⟩
def lw_privs : List (MethodName × Nat) := lw_privs_1 ++ (lw_privs_2 ++ (lw_privs_3 ++ (lw_privs_4 ++ (lw_privs_5 ++ (lw_privs_6 ++ (lw_privs_7 ++ (lw_privs_8)))))))
def lw_tbl : List Cond := k2_sels lw_privs ++ tables_1
theorem lw_privs_ok : ∀ q ∈ lw_privs, lw_okq q := by
  show ∀ q ∈ lw_privs_1 ++ (lw_privs_2 ++ (lw_privs_3 ++ (lw_privs_4 ++ (lw_privs_5 ++ (lw_privs_6 ++ (lw_privs_7 ++ (lw_privs_8))))))), lw_okq q
  exact List.forall_mem_append.mpr ⟨lw_r1, List.forall_mem_append.mpr ⟨lw_r2, List.forall_mem_append.mpr ⟨lw_r3, List.forall_mem_append.mpr ⟨lw_r4, List.forall_mem_append.mpr ⟨lw_r5, List.forall_mem_append.mpr ⟨lw_r6, List.forall_mem_append.mpr ⟨lw_r7, lw_r8⟩⟩⟩⟩⟩⟩⟩

def RX0 : String := "PaperBread$Days"
def TX0 : u_T := fun k => match k with
  | 0 => ("PaperBread$Days", "cells", "[I", true)
  | 1 => ("PaperBread$Days", "begun", "[I", true)
  | 2 => ("PaperBread$Days", "within", "I", false)
  | 3 => ("PaperBread$Days", "rows", "I", false)
  | 4 => ("PaperBread$Days", "steps", "I", false)
  | _ => ("PaperBread$Days", "written", "Z", false)
def tyX0 : Nat → FieldType := fun k => match k with
  | 0 => .array .int
  | 1 => .array .int
  | 2 => .int
  | 3 => .int
  | 4 => .int
  | _ => .boolean
abbrev wsX00 : List Cond := u_ws RX0 TX0 6
theorem nmX0 : ∀ a, a < 6 → ∀ b, b < 6 → a ≠ b → (TX0 a).2.1 ≠ (TX0 b).2.1 := by decide +kernel
theorem tyX0_ok : ∀ k, k < 6 → parseFieldDescriptor (TX0 k).2.2.1 = some (tyX0 k) := by decide +kernel
abbrev cX0_init : ByteArray := prog_2_method_1_code
def yX0_init : MethodName := ⟨RX0, "<init>", "()V"⟩
abbrev cX0_clear : ByteArray := prog_2_method_2_code
def yX0_clear : MethodName := ⟨RX0, "clear", "()V"⟩
abbrev cX0_copyOf : ByteArray := prog_2_method_3_code
def yX0_copyOf : MethodName := ⟨RX0, "copyOf", "(LPaperBread$Days;)V"⟩
abbrev cX0_cell : ByteArray := prog_2_method_4_code
def yX0_cell : MethodName := ⟨RX0, "cell", "(II)I"⟩
abbrev cX0_add : ByteArray := prog_2_method_5_code
def yX0_add : MethodName := ⟨RX0, "add", "(I[I)V"⟩
abbrev cX0_begin : ByteArray := prog_2_method_6_code
def yX0_begin : MethodName := ⟨RX0, "begin", "()V"⟩
abbrev cX0_close : ByteArray := prog_2_method_7_code
def yX0_close : MethodName := ⟨RX0, "close", "([I)V"⟩
def RX1 : String := "PaperBread$Living"
def TX1 : u_T := fun k => match k with
  | 0 => ("PaperBread$Living", "share", "LPaperBread$Share;", true)
  | 1 => ("PaperBread$Living", "rounds", "[I", true)
  | 2 => ("PaperBread$Living", "drawn", "I", false)
  | 3 => ("PaperBread$Living", "steps", "I", false)
  | 4 => ("PaperBread$Living", "missed", "I", false)
  | 5 => ("PaperBread$Living", "slicesBaked", "I", false)
  | 6 => ("PaperBread$Living", "eaten", "I", false)
  | 7 => ("PaperBread$Living", "wetLoaves", "I", false)
  | _ => ("PaperBread$Living", "cutShort", "Z", false)
def tyX1 : Nat → FieldType := fun k => match k with
  | 0 => .object "PaperBread$Share"
  | 1 => .array .int
  | 2 => .int
  | 3 => .int
  | 4 => .int
  | 5 => .int
  | 6 => .int
  | 7 => .int
  | _ => .boolean
abbrev wsX10 : List Cond := u_ws RX1 TX1 9
theorem nmX1 : ∀ a, a < 9 → ∀ b, b < 9 → a ≠ b → (TX1 a).2.1 ≠ (TX1 b).2.1 := by decide +kernel
theorem tyX1_ok : ∀ k, k < 9 → parseFieldDescriptor (TX1 k).2.2.1 = some (tyX1 k) := by decide +kernel
abbrev cX1_init : ByteArray := prog_3_method_1_code
def yX1_init : MethodName := ⟨RX1, "<init>", "()V"⟩
abbrev cX1_run : ByteArray := prog_3_method_2_code
def yX1_run : MethodName := ⟨RX1, "run", "(LPaperBread$Town;I)V"⟩
abbrev cX1_goOn : ByteArray := prog_3_method_3_code
def yX1_goOn : MethodName := ⟨RX1, "goOn", "(LPaperBread$Town;I)I"⟩
abbrev cX1_behindEnd : ByteArray := prog_3_method_4_code
def yX1_behindEnd : MethodName := ⟨RX1, "behindEnd", "(LPaperBread$Days;I)I"⟩
abbrev cX1_isTrue : ByteArray := prog_3_method_5_code
def yX1_isTrue : MethodName := ⟨RX1, "isTrue", "(LPaperBread$Town;I)Z"⟩
abbrev cX1_compares : ByteArray := prog_3_method_6_code
def yX1_compares : MethodName := ⟨RX1, "compares", "(III)Z"⟩
abbrev cX1_isDone : ByteArray := prog_3_method_7_code
def yX1_isDone : MethodName := ⟨RX1, "isDone", "(LPaperBread$Town;II)Z"⟩
abbrev cX1_hasBaked : ByteArray := prog_3_method_8_code
def yX1_hasBaked : MethodName := ⟨RX1, "hasBaked", "(LPaperBread$Town;I)Z"⟩
abbrev cX1_hasWaited : ByteArray := prog_3_method_9_code
def yX1_hasWaited : MethodName := ⟨RX1, "hasWaited", "(LPaperBread$Town;I)Z"⟩
abbrev cX1_nextDraw : ByteArray := prog_3_method_10_code
def yX1_nextDraw : MethodName := ⟨RX1, "nextDraw", "()I"⟩
def RX2 : String := "PaperBread$Names"
def TX2 : u_T := fun k => match k with
  | _ => ("PaperBread$Names", "known", "[J", true)
def tyX2 : Nat → FieldType := fun k => match k with
  | _ => .array .long
abbrev wsX20 : List Cond := u_ws RX2 TX2 1
theorem nmX2 : ∀ a, a < 1 → ∀ b, b < 1 → a ≠ b → (TX2 a).2.1 ≠ (TX2 b).2.1 := by decide +kernel
theorem tyX2_ok : ∀ k, k < 1 → parseFieldDescriptor (TX2 k).2.2.1 = some (tyX2 k) := by decide +kernel
abbrev cX2_init : ByteArray := prog_4_method_1_code
def yX2_init : MethodName := ⟨RX2, "<init>", "()V"⟩
abbrev cX2_clear : ByteArray := prog_4_method_2_code
def yX2_clear : MethodName := ⟨RX2, "clear", "()V"⟩
abbrev cX2_copyOf : ByteArray := prog_4_method_3_code
def yX2_copyOf : MethodName := ⟨RX2, "copyOf", "(LPaperBread$Names;)V"⟩
abbrev cX2_give : ByteArray := prog_4_method_4_code
def yX2_give : MethodName := ⟨RX2, "give", "(IIJ)V"⟩
abbrev cX2_numberOf : ByteArray := prog_4_method_5_code
def yX2_numberOf : MethodName := ⟨RX2, "numberOf", "(IJ)I"⟩
abbrev cX2_isTaken : ByteArray := prog_4_method_6_code
def yX2_isTaken : MethodName := ⟨RX2, "isTaken", "(J)Z"⟩
def RX3 : String := "PaperBread$Netting"
def TX3 : u_T := fun k => match k with
  | 0 => ("PaperBread$Netting", "sums", "[I", true)
  | 1 => ("PaperBread$Netting", "groups", "[I", true)
  | 2 => ("PaperBread$Netting", "steps", "[I", true)
  | 3 => ("PaperBread$Netting", "found", "[I", true)
  | _ => ("PaperBread$Netting", "ringLength", "I", false)
def tyX3 : Nat → FieldType := fun k => match k with
  | 0 => .array .int
  | 1 => .array .int
  | 2 => .array .int
  | 3 => .array .int
  | _ => .int
abbrev wsX30 : List Cond := u_ws RX3 TX3 5
theorem nmX3 : ∀ a, a < 5 → ∀ b, b < 5 → a ≠ b → (TX3 a).2.1 ≠ (TX3 b).2.1 := by decide +kernel
theorem tyX3_ok : ∀ k, k < 5 → parseFieldDescriptor (TX3 k).2.2.1 = some (tyX3 k) := by decide +kernel
abbrev cX3_init : ByteArray := prog_5_method_1_code
def yX3_init : MethodName := ⟨RX3, "<init>", "()V"⟩
abbrev cX3_fewestHandOvers : ByteArray := prog_5_method_2_code
def yX3_fewestHandOvers : MethodName := ⟨RX3, "fewestHandOvers", "(LPaperBread$Town;)I"⟩
abbrev cX3_findRing : ByteArray := prog_5_method_3_code
def yX3_findRing : MethodName := ⟨RX3, "findRing", "(LPaperBread$Promises;)I"⟩
abbrev cX3_nextOnWay : ByteArray := prog_5_method_4_code
def yX3_nextOnWay : MethodName := ⟨RX3, "nextOnWay", "(LPaperBread$Promises;III)I"⟩
abbrev cX3_way : ByteArray := prog_5_method_5_code
def yX3_way : MethodName := ⟨RX3, "way", "(II)I"⟩
abbrev cX3_measure : ByteArray := prog_5_method_6_code
def yX3_measure : MethodName := ⟨RX3, "measure", "(LPaperBread$Promises;)V"⟩
def RX4 : String := "PaperBread$Promises"
def TX4 : u_T := fun k => match k with
  | 0 => ("PaperBread$Promises", "slices", "[I", true)
  | 1 => ("PaperBread$Promises", "loaf", "[I", true)
  | 2 => ("PaperBread$Promises", "giver", "[I", true)
  | 3 => ("PaperBread$Promises", "taker", "[I", true)
  | 4 => ("PaperBread$Promises", "price", "[I", true)
  | 5 => ("PaperBread$Promises", "gone", "[Z", true)
  | 6 => ("PaperBread$Promises", "ownDepth", "[I", true)
  | 7 => ("PaperBread$Promises", "reached", "[I", true)
  | _ => ("PaperBread$Promises", "count", "I", false)
def tyX4 : Nat → FieldType := fun k => match k with
  | 0 => .array .int
  | 1 => .array .int
  | 2 => .array .int
  | 3 => .array .int
  | 4 => .array .int
  | 5 => .array .boolean
  | 6 => .array .int
  | 7 => .array .int
  | _ => .int
abbrev wsX40 : List Cond := u_ws RX4 TX4 9
theorem nmX4 : ∀ a, a < 9 → ∀ b, b < 9 → a ≠ b → (TX4 a).2.1 ≠ (TX4 b).2.1 := by decide +kernel
theorem tyX4_ok : ∀ k, k < 9 → parseFieldDescriptor (TX4 k).2.2.1 = some (tyX4 k) := by decide +kernel
abbrev cX4_init : ByteArray := prog_6_method_1_code
def yX4_init : MethodName := ⟨RX4, "<init>", "()V"⟩
abbrev cX4_copyOf : ByteArray := prog_6_method_2_code
def yX4_copyOf : MethodName := ⟨RX4, "copyOf", "(LPaperBread$Promises;)V"⟩
abbrev cX4_has : ByteArray := prog_6_method_3_code
def yX4_has : MethodName := ⟨RX4, "has", "(I)Z"⟩
abbrev cX4_hasRoom : ByteArray := prog_6_method_4_code
def yX4_hasRoom : MethodName := ⟨RX4, "hasRoom", "()Z"⟩
abbrev cX4_stands : ByteArray := prog_6_method_5_code
def yX4_stands : MethodName := ⟨RX4, "stands", "(I)Z"⟩
abbrev cX4_deepest : ByteArray := prog_6_method_6_code
def yX4_deepest : MethodName := ⟨RX4, "deepest", "(II)I"⟩
abbrev cX4_handed : ByteArray := prog_6_method_7_code
def yX4_handed : MethodName := ⟨RX4, "handed", "(II)I"⟩
abbrev cX4_surplus : ByteArray := prog_6_method_8_code
def yX4_surplus : MethodName := ⟨RX4, "surplus", "(I)I"⟩
def RX5 : String := "PaperBread$Share"
def TX5 : u_T := fun k => match k with
  | 0 => ("PaperBread$Share", "held", "[I", true)
  | 1 => ("PaperBread$Share", "since", "[I", true)
  | 2 => ("PaperBread$Share", "queue", "[I", true)
  | 3 => ("PaperBread$Share", "got", "[I", true)
  | 4 => ("PaperBread$Share", "disgrace", "[I", true)
  | 5 => ("PaperBread$Share", "fromLoaf", "[I", true)
  | _ => ("PaperBread$Share", "waiting", "I", false)
def tyX5 : Nat → FieldType := fun k => match k with
  | 0 => .array .int
  | 1 => .array .int
  | 2 => .array .int
  | 3 => .array .int
  | 4 => .array .int
  | 5 => .array .int
  | _ => .int
abbrev wsX50 : List Cond := u_ws RX5 TX5 7
theorem nmX5 : ∀ a, a < 7 → ∀ b, b < 7 → a ≠ b → (TX5 a).2.1 ≠ (TX5 b).2.1 := by decide +kernel
theorem tyX5_ok : ∀ k, k < 7 → parseFieldDescriptor (TX5 k).2.2.1 = some (tyX5 k) := by decide +kernel
abbrev cX5_init : ByteArray := prog_7_method_1_code
def yX5_init : MethodName := ⟨RX5, "<init>", "()V"⟩
abbrev cX5_weigh : ByteArray := prog_7_method_2_code
def yX5_weigh : MethodName := ⟨RX5, "weigh", "(LPaperBread$Town;I)V"⟩
abbrev cX5_lineUp : ByteArray := prog_7_method_3_code
def yX5_lineUp : MethodName := ⟨RX5, "lineUp", "()V"⟩
abbrev cX5_deal : ByteArray := prog_7_method_4_code
def yX5_deal : MethodName := ⟨RX5, "deal", "(I)V"⟩
abbrev cX5_ownerOf : ByteArray := prog_7_method_5_code
def yX5_ownerOf : MethodName := ⟨RX5, "ownerOf", "(I)I"⟩
abbrev cX5_settle : ByteArray := prog_7_method_6_code
def yX5_settle : MethodName := ⟨RX5, "settle", "(LPaperBread$Town;IZ)V"⟩
abbrev cX5_othersHold : ByteArray := prog_7_method_7_code
def yX5_othersHold : MethodName := ⟨RX5, "othersHold", "(I)Z"⟩
abbrev cX5_gather : ByteArray := prog_7_method_8_code
def yX5_gather : MethodName := ⟨RX5, "gather", "(LPaperBread$Town;I)V"⟩
abbrev cX5_cheapestSet : ByteArray := prog_7_method_9_code
def yX5_cheapestSet : MethodName := ⟨RX5, "cheapestSet", "(LPaperBread$Town;I)I"⟩
abbrev cX5_gathered : ByteArray := prog_7_method_10_code
def yX5_gathered : MethodName := ⟨RX5, "gathered", "(I)I"⟩
def RX6 : String := "PaperBread$Texts"
def TX6 : u_T := fun k => match k with
  | 0 => ("PaperBread$Texts", "tokens", "LPaperBread$Tokens;", true)
  | _ => ("PaperBread$Texts", "facts", "[I", true)
def tyX6 : Nat → FieldType := fun k => match k with
  | 0 => .object "PaperBread$Tokens"
  | _ => .array .int
abbrev wsX60 : List Cond := u_ws RX6 TX6 2
theorem nmX6 : ∀ a, a < 2 → ∀ b, b < 2 → a ≠ b → (TX6 a).2.1 ≠ (TX6 b).2.1 := by decide +kernel
theorem tyX6_ok : ∀ k, k < 2 → parseFieldDescriptor (TX6 k).2.2.1 = some (tyX6 k) := by decide +kernel
abbrev cX6_init : ByteArray := prog_8_method_1_code
def yX6_init : MethodName := ⟨RX6, "<init>", "()V"⟩
abbrev cX6_readTown : ByteArray := prog_8_method_2_code
def yX6_readTown : MethodName := ⟨RX6, "readTown", "(LPaperBread$Town;I)Z"⟩
abbrev cX6_beginPart : ByteArray := prog_8_method_3_code
def yX6_beginPart : MethodName := ⟨RX6, "beginPart", "(IZ)V"⟩
abbrev cX6_endsPart : ByteArray := prog_8_method_4_code
def yX6_endsPart : MethodName := ⟨RX6, "endsPart", "()Z"⟩
abbrev cX6_readPerson : ByteArray := prog_8_method_5_code
def yX6_readPerson : MethodName := ⟨RX6, "readPerson", "(LPaperBread$Town;)V"⟩
abbrev cX6_readOven : ByteArray := prog_8_method_6_code
def yX6_readOven : MethodName := ⟨RX6, "readOven", "(LPaperBread$Town;)V"⟩
abbrev cX6_readLoaf : ByteArray := prog_8_method_7_code
def yX6_readLoaf : MethodName := ⟨RX6, "readLoaf", "(LPaperBread$Town;)V"⟩
abbrev cX6_readTownPromise : ByteArray := prog_8_method_8_code
def yX6_readTownPromise : MethodName := ⟨RX6, "readTownPromise", "(LPaperBread$Town;)V"⟩
abbrev cX6_readPromise : ByteArray := prog_8_method_9_code
def yX6_readPromise : MethodName := ⟨RX6, "readPromise", "(LPaperBread$Names;)V"⟩
abbrev cX6_readDays : ByteArray := prog_8_method_10_code
def yX6_readDays : MethodName := ⟨RX6, "readDays", "(LPaperBread$Names;LPaperBread$Days;I)Z"⟩
abbrev cX6_readEnd : ByteArray := prog_8_method_11_code
def yX6_readEnd : MethodName := ⟨RX6, "readEnd", "(LPaperBread$Days;)V"⟩
abbrev cX6_isStep : ByteArray := prog_8_method_12_code
def yX6_isStep : MethodName := ⟨RX6, "isStep", "(I)Z"⟩
abbrev cX6_begins : ByteArray := prog_8_method_13_code
def yX6_begins : MethodName := ⟨RX6, "begins", "(I)Z"⟩
abbrev cX6_mayStepHere : ByteArray := prog_8_method_14_code
def yX6_mayStepHere : MethodName := ⟨RX6, "mayStepHere", "(ILPaperBread$Days;)Z"⟩
abbrev cX6_addStep : ByteArray := prog_8_method_15_code
def yX6_addStep : MethodName := ⟨RX6, "addStep", "(ILPaperBread$Days;)V"⟩
abbrev cX6_readStep : ByteArray := prog_8_method_16_code
def yX6_readStep : MethodName := ⟨RX6, "readStep", "(ILPaperBread$Names;)V"⟩
abbrev cX6_readTest : ByteArray := prog_8_method_17_code
def yX6_readTest : MethodName := ⟨RX6, "readTest", "(LPaperBread$Names;)V"⟩
def RX7 : String := "PaperBread$Tokens"
def TX7 : u_T := fun k => match k with
  | 0 => ("PaperBread$Tokens", "tape", "[B", true)
  | 1 => ("PaperBread$Tokens", "keywords", "[J", true)
  | 2 => ("PaperBread$Tokens", "fed", "I", false)
  | 3 => ("PaperBread$Tokens", "length", "I", false)
  | 4 => ("PaperBread$Tokens", "kind", "I", false)
  | 5 => ("PaperBread$Tokens", "place", "I", false)
  | 6 => ("PaperBread$Tokens", "behind", "I", false)
  | 7 => ("PaperBread$Tokens", "number", "I", false)
  | 8 => ("PaperBread$Tokens", "name", "J", false)
  | 9 => ("PaperBread$Tokens", "wrong", "I", false)
  | _ => ("PaperBread$Tokens", "wrongPlace", "I", false)
def tyX7 : Nat → FieldType := fun k => match k with
  | 0 => .array .byte
  | 1 => .array .long
  | 2 => .int
  | 3 => .int
  | 4 => .int
  | 5 => .int
  | 6 => .int
  | 7 => .int
  | 8 => .long
  | 9 => .int
  | _ => .int
abbrev wsX70 : List Cond := u_ws RX7 TX7 11
theorem nmX7 : ∀ a, a < 11 → ∀ b, b < 11 → a ≠ b → (TX7 a).2.1 ≠ (TX7 b).2.1 := by decide +kernel
theorem tyX7_ok : ∀ k, k < 11 → parseFieldDescriptor (TX7 k).2.2.1 = some (tyX7 k) := by decide +kernel
abbrev cX7_init : ByteArray := prog_9_method_1_code
def yX7_init : MethodName := ⟨RX7, "<init>", "()V"⟩
abbrev cX7_hasRoomFor : ByteArray := prog_9_method_2_code
def yX7_hasRoomFor : MethodName := ⟨RX7, "hasRoomFor", "(I)Z"⟩
abbrev cX7_append : ByteArray := prog_9_method_3_code
def yX7_append : MethodName := ⟨RX7, "append", "(I)V"⟩
abbrev cX7_open : ByteArray := prog_9_method_4_code
def yX7_open : MethodName := ⟨RX7, "open", "(I)V"⟩
abbrev cX7_advance : ByteArray := prog_9_method_5_code
def yX7_advance : MethodName := ⟨RX7, "advance", "()V"⟩
abbrev cX7_cutWord : ByteArray := prog_9_method_6_code
def yX7_cutWord : MethodName := ⟨RX7, "cutWord", "()V"⟩
abbrev cX7_cutNumber : ByteArray := prog_9_method_7_code
def yX7_cutNumber : MethodName := ⟨RX7, "cutNumber", "()V"⟩
abbrev cX7_goesOn : ByteArray := prog_9_method_8_code
def yX7_goesOn : MethodName := ⟨RX7, "goesOn", "()Z"⟩
abbrev cX7_blame : ByteArray := prog_9_method_9_code
def yX7_blame : MethodName := ⟨RX7, "blame", "(I)V"⟩
abbrev cX7_misplaced : ByteArray := prog_9_method_10_code
def yX7_misplaced : MethodName := ⟨RX7, "misplaced", "()V"⟩
abbrev cX7_isWord : ByteArray := prog_9_method_11_code
def yX7_isWord : MethodName := ⟨RX7, "isWord", "(I)Z"⟩
abbrev cX7_wordHere : ByteArray := prog_9_method_12_code
def yX7_wordHere : MethodName := ⟨RX7, "wordHere", "()I"⟩
abbrev cX7_skips : ByteArray := prog_9_method_13_code
def yX7_skips : MethodName := ⟨RX7, "skips", "(I)Z"⟩
abbrev cX7_takeWord : ByteArray := prog_9_method_14_code
def yX7_takeWord : MethodName := ⟨RX7, "takeWord", "(I)V"⟩
abbrev cX7_takeSign : ByteArray := prog_9_method_15_code
def yX7_takeSign : MethodName := ⟨RX7, "takeSign", "(I)V"⟩
abbrev cX7_takeCompares : ByteArray := prog_9_method_16_code
def yX7_takeCompares : MethodName := ⟨RX7, "takeCompares", "()I"⟩
abbrev cX7_takeNumber : ByteArray := prog_9_method_17_code
def yX7_takeNumber : MethodName := ⟨RX7, "takeNumber", "(II)I"⟩
abbrev cX7_seesName : ByteArray := prog_9_method_18_code
def yX7_seesName : MethodName := ⟨RX7, "seesName", "()Z"⟩
abbrev cX7_takeNewName : ByteArray := prog_9_method_19_code
def yX7_takeNewName : MethodName := ⟨RX7, "takeNewName", "(LPaperBread$Names;)J"⟩
abbrev cX7_takeName : ByteArray := prog_9_method_20_code
def yX7_takeName : MethodName := ⟨RX7, "takeName", "(LPaperBread$Names;II)I"⟩
def RX8 : String := "PaperBread$Town"
def TX8 : u_T := fun k => match k with
  | 0 => ("PaperBread$Town", "names", "LPaperBread$Names;", true)
  | 1 => ("PaperBread$Town", "promises", "LPaperBread$Promises;", true)
  | 2 => ("PaperBread$Town", "days", "LPaperBread$Days;", true)
  | 3 => ("PaperBread$Town", "purse", "[I", true)
  | 4 => ("PaperBread$Town", "own", "[I", true)
  | 5 => ("PaperBread$Town", "lostFace", "[I", true)
  | 6 => ("PaperBread$Town", "rain", "[I", true)
  | 7 => ("PaperBread$Town", "baker", "[I", true)
  | 8 => ("PaperBread$Town", "oven", "[I", true)
  | 9 => ("PaperBread$Town", "bakingDay", "[I", true)
  | 10 => ("PaperBread$Town", "slices", "[I", true)
  | 11 => ("PaperBread$Town", "flour", "[I", true)
  | 12 => ("PaperBread$Town", "came", "[I", true)
  | 13 => ("PaperBread$Town", "people", "I", false)
  | 14 => ("PaperBread$Town", "ovens", "I", false)
  | 15 => ("PaperBread$Town", "loaves", "I", false)
  | 16 => ("PaperBread$Town", "day", "I", false)
  | 17 => ("PaperBread$Town", "baked", "I", false)
  | _ => ("PaperBread$Town", "wet", "I", false)
def tyX8 : Nat → FieldType := fun k => match k with
  | 0 => .object "PaperBread$Names"
  | 1 => .object "PaperBread$Promises"
  | 2 => .object "PaperBread$Days"
  | 3 => .array .int
  | 4 => .array .int
  | 5 => .array .int
  | 6 => .array .int
  | 7 => .array .int
  | 8 => .array .int
  | 9 => .array .int
  | 10 => .array .int
  | 11 => .array .int
  | 12 => .array .int
  | 13 => .int
  | 14 => .int
  | 15 => .int
  | 16 => .int
  | 17 => .int
  | _ => .int
abbrev wsX80 : List Cond := u_ws RX8 TX8 19
theorem nmX8 : ∀ a, a < 19 → ∀ b, b < 19 → a ≠ b → (TX8 a).2.1 ≠ (TX8 b).2.1 := by decide +kernel
theorem tyX8_ok : ∀ k, k < 19 → parseFieldDescriptor (TX8 k).2.2.1 = some (tyX8 k) := by decide +kernel
abbrev cX8_init : ByteArray := prog_10_method_1_code
def yX8_init : MethodName := ⟨RX8, "<init>", "()V"⟩
abbrev cX8_clear : ByteArray := prog_10_method_2_code
def yX8_clear : MethodName := ⟨RX8, "clear", "()V"⟩
abbrev cX8_copyOf : ByteArray := prog_10_method_3_code
def yX8_copyOf : MethodName := ⟨RX8, "copyOf", "(LPaperBread$Town;)V"⟩
abbrev cX8_addPerson : ByteArray := prog_10_method_4_code
def yX8_addPerson : MethodName := ⟨RX8, "addPerson", "(JI)V"⟩
abbrev cX8_addOven : ByteArray := prog_10_method_5_code
def yX8_addOven : MethodName := ⟨RX8, "addOven", "(JI)V"⟩
abbrev cX8_addLoaf : ByteArray := prog_10_method_6_code
def yX8_addLoaf : MethodName := ⟨RX8, "addLoaf", "(JIIIII)V"⟩
abbrev cX8_hasPerson : ByteArray := prog_10_method_7_code
def yX8_hasPerson : MethodName := ⟨RX8, "hasPerson", "(I)Z"⟩
abbrev cX8_hasLoaf : ByteArray := prog_10_method_8_code
def yX8_hasLoaf : MethodName := ⟨RX8, "hasLoaf", "(I)Z"⟩
abbrev cX8_isPaper : ByteArray := prog_10_method_9_code
def yX8_isPaper : MethodName := ⟨RX8, "isPaper", "(I)Z"⟩
abbrev cX8_isBaked : ByteArray := prog_10_method_10_code
def yX8_isBaked : MethodName := ⟨RX8, "isBaked", "(I)Z"⟩
abbrev cX8_isWet : ByteArray := prog_10_method_11_code
def yX8_isWet : MethodName := ⟨RX8, "isWet", "(I)Z"⟩
abbrev cX8_bakerOf : ByteArray := prog_10_method_12_code
def yX8_bakerOf : MethodName := ⟨RX8, "bakerOf", "(I)I"⟩
abbrev cX8_rainOn : ByteArray := prog_10_method_13_code
def yX8_rainOn : MethodName := ⟨RX8, "rainOn", "(I)I"⟩
abbrev cX8_comesOf : ByteArray := prog_10_method_14_code
def yX8_comesOf : MethodName := ⟨RX8, "comesOf", "(IZ)I"⟩
abbrev cX8_flourOf : ByteArray := prog_10_method_15_code
def yX8_flourOf : MethodName := ⟨RX8, "flourOf", "(I)I"⟩
abbrev cX8_handOn : ByteArray := prog_10_method_16_code
def yX8_handOn : MethodName := ⟨RX8, "handOn", "(IIIII)I"⟩
abbrev cX8_release : ByteArray := prog_10_method_17_code
def yX8_release : MethodName := ⟨RX8, "release", "(I)Z"⟩
abbrev cX8_canBake : ByteArray := prog_10_method_18_code
def yX8_canBake : MethodName := ⟨RX8, "canBake", "(I)Z"⟩
abbrev cX8_rainsOn : ByteArray := prog_10_method_19_code
def yX8_rainsOn : MethodName := ⟨RX8, "rainsOn", "(I)Z"⟩
abbrev cX8_bringOut : ByteArray := prog_10_method_20_code
def yX8_bringOut : MethodName := ⟨RX8, "bringOut", "(ILPaperBread$Share;)I"⟩
abbrev cX8_feast : ByteArray := prog_10_method_21_code
def yX8_feast : MethodName := ⟨RX8, "feast", "(II)I"⟩
abbrev cX8_handMoney : ByteArray := prog_10_method_22_code
def yX8_handMoney : MethodName := ⟨RX8, "handMoney", "(III)Z"⟩
def RX9 : String := "PaperBread$Trays"
def TX9 : u_T := fun k => match k with
  | 0 => ("PaperBread$Trays", "cells", "[J", true)
  | 1 => ("PaperBread$Trays", "sorts", "[I", true)
  | _ => ("PaperBread$Trays", "lengths", "[I", true)
def tyX9 : Nat → FieldType := fun k => match k with
  | 0 => .array .long
  | 1 => .array .int
  | _ => .array .int
abbrev wsX90 : List Cond := u_ws RX9 TX9 3
theorem nmX9 : ∀ a, a < 3 → ∀ b, b < 3 → a ≠ b → (TX9 a).2.1 ≠ (TX9 b).2.1 := by decide +kernel
theorem tyX9_ok : ∀ k, k < 3 → parseFieldDescriptor (TX9 k).2.2.1 = some (tyX9 k) := by decide +kernel
abbrev cX9_init : ByteArray := prog_11_method_1_code
def yX9_init : MethodName := ⟨RX9, "<init>", "()V"⟩
abbrev cX9_exists : ByteArray := prog_11_method_2_code
def yX9_exists : MethodName := ⟨RX9, "exists", "(I)Z"⟩
abbrev cX9_isSort : ByteArray := prog_11_method_3_code
def yX9_isSort : MethodName := ⟨RX9, "isSort", "(I)Z"⟩
abbrev cX9_isMissing : ByteArray := prog_11_method_4_code
def yX9_isMissing : MethodName := ⟨RX9, "isMissing", "(I)Z"⟩
abbrev cX9_lengthOf : ByteArray := prog_11_method_5_code
def yX9_lengthOf : MethodName := ⟨RX9, "lengthOf", "(I)I"⟩
abbrev cX9_alike : ByteArray := prog_11_method_6_code
def yX9_alike : MethodName := ⟨RX9, "alike", "(II)Z"⟩
abbrev cX9_hasRow : ByteArray := prog_11_method_7_code
def yX9_hasRow : MethodName := ⟨RX9, "hasRow", "(III)Z"⟩
abbrev cX9_whyNot : ByteArray := prog_11_method_8_code
def yX9_whyNot : MethodName := ⟨RX9, "whyNot", "(II)I"⟩
abbrev cX9_lay : ByteArray := prog_11_method_9_code
def yX9_lay : MethodName := ⟨RX9, "lay", "(III)V"⟩
abbrev cX9_put : ByteArray := prog_11_method_10_code
def yX9_put : MethodName := ⟨RX9, "put", "(IIJ)V"⟩
abbrev cX9_at : ByteArray := prog_11_method_11_code
def yX9_at : MethodName := ⟨RX9, "at", "(II)J"⟩
abbrev cX9_move : ByteArray := prog_11_method_12_code
def yX9_move : MethodName := ⟨RX9, "move", "(IIIII)V"⟩
abbrev cX9_allWithin : ByteArray := prog_11_method_13_code
def yX9_allWithin : MethodName := ⟨RX9, "allWithin", "(IIJ)Z"⟩
abbrev cX9_placeOfMost : ByteArray := prog_11_method_14_code
def yX9_placeOfMost : MethodName := ⟨RX9, "placeOfMost", "(III)I"⟩
abbrev cX9_cutTo : ByteArray := prog_11_method_15_code
def yX9_cutTo : MethodName := ⟨RX9, "cutTo", "(IJ)J"⟩
def RX10 : String := "PaperBread"
def TX10 : u_T := fun k => match k with
  | 0 => ("PaperBread", "trays", "LPaperBread$Trays;", true)
  | 1 => ("PaperBread", "texts", "LPaperBread$Texts;", true)
  | 2 => ("PaperBread", "town", "LPaperBread$Town;", true)
  | 3 => ("PaperBread", "draft", "LPaperBread$Town;", true)
  | 4 => ("PaperBread", "marks", "[LPaperBread$Town;", true)
  | 5 => ("PaperBread", "share", "LPaperBread$Share;", true)
  | 6 => ("PaperBread", "netting", "LPaperBread$Netting;", true)
  | 7 => ("PaperBread", "living", "LPaperBread$Living;", true)
  | 8 => ("PaperBread", "trial", "LPaperBread$Living;", true)
  | 9 => ("PaperBread", "marked", "I", false)
  | 10 => ("PaperBread", "status", "I", false)
  | 11 => ("PaperBread", "top", "J", false)
  | 12 => ("PaperBread", "bottom", "J", false)
  | 13 => ("PaperBread", "faultKind", "I", false)
  | 14 => ("PaperBread", "faultPlace", "I", false)
  | _ => ("PaperBread", "hasLived", "Z", false)
def tyX10 : Nat → FieldType := fun k => match k with
  | 0 => .object "PaperBread$Trays"
  | 1 => .object "PaperBread$Texts"
  | 2 => .object "PaperBread$Town"
  | 3 => .object "PaperBread$Town"
  | 4 => .array (.object "PaperBread$Town")
  | 5 => .object "PaperBread$Share"
  | 6 => .object "PaperBread$Netting"
  | 7 => .object "PaperBread$Living"
  | 8 => .object "PaperBread$Living"
  | 9 => .int
  | 10 => .int
  | 11 => .long
  | 12 => .long
  | 13 => .int
  | 14 => .int
  | _ => .boolean
abbrev wsX100 : List Cond := u_ws RX10 TX10 16
theorem nmX10 : ∀ a, a < 16 → ∀ b, b < 16 → a ≠ b → (TX10 a).2.1 ≠ (TX10 b).2.1 := by decide +kernel
theorem tyX10_ok : ∀ k, k < 16 → parseFieldDescriptor (TX10 k).2.2.1 = some (tyX10 k) := by decide +kernel
abbrev cX10_init : ByteArray := prog_1_method_1_code
def yX10_init : MethodName := ⟨RX10, "<init>", "()V"⟩
abbrev cX10_status : ByteArray := prog_1_method_2_code
def yX10_status : MethodName := ⟨RX10, "status", "()I"⟩
abbrev cX10_top : ByteArray := prog_1_method_3_code
def yX10_top : MethodName := ⟨RX10, "top", "()J"⟩
abbrev cX10_bottom : ByteArray := prog_1_method_4_code
def yX10_bottom : MethodName := ⟨RX10, "bottom", "()J"⟩
abbrev cX10_tray : ByteArray := prog_1_method_5_code
def yX10_tray : MethodName := ⟨RX10, "tray", "(III)Z"⟩
abbrev cX10_write : ByteArray := prog_1_method_6_code
def yX10_write : MethodName := ⟨RX10, "write", "(IIJ)Z"⟩
abbrev cX10_read : ByteArray := prog_1_method_7_code
def yX10_read : MethodName := ⟨RX10, "read", "(II)J"⟩
abbrev cX10_pour : ByteArray := prog_1_method_8_code
def yX10_pour : MethodName := ⟨RX10, "pour", "(IIIII)Z"⟩
abbrev cX10_feed : ByteArray := prog_1_method_9_code
def yX10_feed : MethodName := ⟨RX10, "feed", "(IIIII)I"⟩
abbrev cX10_town : ByteArray := prog_1_method_10_code
def yX10_town : MethodName := ⟨RX10, "town", "(I)I"⟩
abbrev cX10_days : ByteArray := prog_1_method_11_code
def yX10_days : MethodName := ⟨RX10, "days", "(I)I"⟩
abbrev cX10_fault : ByteArray := prog_1_method_12_code
def yX10_fault : MethodName := ⟨RX10, "fault", "(I)I"⟩
abbrev cX10_many : ByteArray := prog_1_method_13_code
def yX10_many : MethodName := ⟨RX10, "many", "(I)I"⟩
abbrev cX10_person : ByteArray := prog_1_method_14_code
def yX10_person : MethodName := ⟨RX10, "person", "(II)I"⟩
abbrev cX10_loaf : ByteArray := prog_1_method_15_code
def yX10_loaf : MethodName := ⟨RX10, "loaf", "(II)I"⟩
abbrev cX10_promise : ByteArray := prog_1_method_16_code
def yX10_promise : MethodName := ⟨RX10, "promise", "(II)I"⟩
abbrev cX10_holds : ByteArray := prog_1_method_17_code
def yX10_holds : MethodName := ⟨RX10, "holds", "(II)I"⟩
abbrev cX10_deep : ByteArray := prog_1_method_18_code
def yX10_deep : MethodName := ⟨RX10, "deep", "(I)I"⟩
abbrev cX10_first : ByteArray := prog_1_method_19_code
def yX10_first : MethodName := ⟨RX10, "first", "(III)I"⟩
abbrev cX10_line : ByteArray := prog_1_method_20_code
def yX10_line : MethodName := ⟨RX10, "line", "(II)I"⟩
abbrev cX10_whose : ByteArray := prog_1_method_21_code
def yX10_whose : MethodName := ⟨RX10, "whose", "(IIZ)I"⟩
abbrev cX10_depth : ByteArray := prog_1_method_22_code
def yX10_depth : MethodName := ⟨RX10, "depth", "(I)I"⟩
abbrev cX10_between : ByteArray := prog_1_method_23_code
def yX10_between : MethodName := ⟨RX10, "between", "(II)I"⟩
abbrev cX10_gets : ByteArray := prog_1_method_24_code
def yX10_gets : MethodName := ⟨RX10, "gets", "(IIZ)I"⟩
abbrev cX10_shame : ByteArray := prog_1_method_25_code
def yX10_shame : MethodName := ⟨RX10, "shame", "(IZ)I"⟩
abbrev cX10_mean : ByteArray := prog_1_method_26_code
def yX10_mean : MethodName := ⟨RX10, "mean", "(III)Z"⟩
abbrev cX10_net : ByteArray := prog_1_method_27_code
def yX10_net : MethodName := ⟨RX10, "net", "(I)I"⟩
abbrev cX10_handOvers : ByteArray := prog_1_method_28_code
def yX10_handOvers : MethodName := ⟨RX10, "handOvers", "()I"⟩
abbrev cX10_ring : ByteArray := prog_1_method_29_code
def yX10_ring : MethodName := ⟨RX10, "ring", "()I"⟩
abbrev cX10_ringAt : ByteArray := prog_1_method_30_code
def yX10_ringAt : MethodName := ⟨RX10, "ringAt", "(I)I"⟩
abbrev cX10_owing : ByteArray := prog_1_method_31_code
def yX10_owing : MethodName := ⟨RX10, "owing", "(I)I"⟩
abbrev cX10_saved : ByteArray := prog_1_method_32_code
def yX10_saved : MethodName := ⟨RX10, "saved", "(III)I"⟩
abbrev cX10_faces : ByteArray := prog_1_method_33_code
def yX10_faces : MethodName := ⟨RX10, "faces", "()I"⟩
abbrev cX10_keeps : ByteArray := prog_1_method_34_code
def yX10_keeps : MethodName := ⟨RX10, "keeps", "(III)I"⟩
abbrev cX10_burst : ByteArray := prog_1_method_35_code
def yX10_burst : MethodName := ⟨RX10, "burst", "()I"⟩
abbrev cX10_cuts : ByteArray := prog_1_method_36_code
def yX10_cuts : MethodName := ⟨RX10, "cuts", "(IIIII)I"⟩
abbrev cX10_auction : ByteArray := prog_1_method_37_code
def yX10_auction : MethodName := ⟨RX10, "auction", "(III)I"⟩
abbrev cX10_make : ByteArray := prog_1_method_38_code
def yX10_make : MethodName := ⟨RX10, "make", "(IIIII)I"⟩
abbrev cX10_letGo : ByteArray := prog_1_method_39_code
def yX10_letGo : MethodName := ⟨RX10, "letGo", "(I)Z"⟩
abbrev cX10_bake : ByteArray := prog_1_method_40_code
def yX10_bake : MethodName := ⟨RX10, "bake", "(I)I"⟩
abbrev cX10_pass : ByteArray := prog_1_method_41_code
def yX10_pass : MethodName := ⟨RX10, "pass", "(I)I"⟩
abbrev cX10_eat : ByteArray := prog_1_method_42_code
def yX10_eat : MethodName := ⟨RX10, "eat", "(II)I"⟩
abbrev cX10_pay : ByteArray := prog_1_method_43_code
def yX10_pay : MethodName := ⟨RX10, "pay", "(III)Z"⟩
abbrev cX10_live : ByteArray := prog_1_method_44_code
def yX10_live : MethodName := ⟨RX10, "live", "(I)I"⟩
abbrev cX10_lived : ByteArray := prog_1_method_45_code
def yX10_lived : MethodName := ⟨RX10, "lived", "(I)I"⟩
abbrev cX10_odds : ByteArray := prog_1_method_46_code
def yX10_odds : MethodName := ⟨RX10, "odds", "(IIII)Z"⟩
abbrev cX10_mark : ByteArray := prog_1_method_47_code
def yX10_mark : MethodName := ⟨RX10, "mark", "()I"⟩
abbrev cX10_back : ByteArray := prog_1_method_48_code
def yX10_back : MethodName := ⟨RX10, "back", "()I"⟩
abbrev cX10_answer : ByteArray := prog_1_method_49_code
def yX10_answer : MethodName := ⟨RX10, "answer", "(I)I"⟩
abbrev cX10_refuse : ByteArray := prog_1_method_50_code
def yX10_refuse : MethodName := ⟨RX10, "refuse", "(I)I"⟩
abbrev cX10_grant : ByteArray := prog_1_method_51_code
def yX10_grant : MethodName := ⟨RX10, "grant", "()Z"⟩
abbrev cX10_deny : ByteArray := prog_1_method_52_code
def yX10_deny : MethodName := ⟨RX10, "deny", "(I)Z"⟩
abbrev cX10_keepFault : ByteArray := prog_1_method_53_code
def yX10_keepFault : MethodName := ⟨RX10, "keepFault", "()V"⟩
abbrev cX10_tell : ByteArray := prog_1_method_54_code
def yX10_tell : MethodName := ⟨RX10, "tell", "(JJ)V"⟩
abbrev cX10_wouldGet : ByteArray := prog_1_method_55_code
def yX10_wouldGet : MethodName := ⟨RX10, "wouldGet", "(IIZ)I"⟩
abbrev cX10_firstBrokenDay : ByteArray := prog_1_method_56_code
def yX10_firstBrokenDay : MethodName := ⟨RX10, "firstBrokenDay", "(III)I"⟩
abbrev cX10_cuttingTurn : ByteArray := prog_1_method_57_code
def yX10_cuttingTurn : MethodName := ⟨RX10, "cuttingTurn", "(IIII)I"⟩
abbrev cX10_carry : ByteArray := prog_1_method_58_code
def yX10_carry : MethodName := ⟨RX10, "carry", "(LPaperBread$Town;LPaperBread$Town;)V"⟩
def RX11 : String := "PaperBreadModel"
def TX11 : u_T := fun k => match k with
  | 0 => ("PaperBreadModel", "status", "I", false)
  | 1 => ("PaperBreadModel", "thrown", "I", false)
  | 2 => ("PaperBreadModel", "above", "J", false)
  | 3 => ("PaperBreadModel", "under", "J", false)
  | 4 => ("PaperBreadModel", "traySort", "[I", true)
  | 5 => ("PaperBreadModel", "trayMany", "[I", true)
  | 6 => ("PaperBreadModel", "numbers", "[J", true)
  | 7 => ("PaperBreadModel", "tape", "[B", true)
  | 8 => ("PaperBreadModel", "taped", "I", false)
  | 9 => ("PaperBreadModel", "textEnd", "I", false)
  | 10 => ("PaperBreadModel", "faultKind", "I", false)
  | 11 => ("PaperBreadModel", "faultAt", "I", false)
  | 12 => ("PaperBreadModel", "bad", "I", false)
  | 13 => ("PaperBreadModel", "badAt", "I", false)
  | 14 => ("PaperBreadModel", "token", "I", false)
  | 15 => ("PaperBreadModel", "at", "I", false)
  | 16 => ("PaperBreadModel", "behind", "I", false)
  | 17 => ("PaperBreadModel", "number", "I", false)
  | 18 => ("PaperBreadModel", "letters", "I", false)
  | 19 => ("PaperBreadModel", "word", "J", false)
  | 20 => ("PaperBreadModel", "c", "[I", true)
  | 21 => ("PaperBreadModel", "kept", "[I", true)
  | 22 => ("PaperBreadModel", "words", "[J", true)
  | 23 => ("PaperBreadModel", "markMany", "I", false)
  | 24 => ("PaperBreadModel", "newSteps", "I", false)
  | 25 => ("PaperBreadModel", "deepAt", "[I", true)
  | 26 => ("PaperBreadModel", "row", "[I", true)
  | 27 => ("PaperBreadModel", "gotten", "[I", true)
  | 28 => ("PaperBreadModel", "rowMany", "I", false)
  | 29 => ("PaperBreadModel", "groups", "[I", true)
  | 30 => ("PaperBreadModel", "sums", "[I", true)
  | 31 => ("PaperBreadModel", "ringRow", "[I", true)
  | 32 => ("PaperBreadModel", "ringTold", "[I", true)
  | 33 => ("PaperBreadModel", "ringMany", "I", false)
  | 34 => ("PaperBreadModel", "cutTurn", "[I", true)
  | 35 => ("PaperBreadModel", "cutHas", "[I", true)
  | 36 => ("PaperBreadModel", "livedLast", "[I", true)
  | 37 => ("PaperBreadModel", "hasLived", "Z", false)
  | 38 => ("PaperBreadModel", "isOver", "Z", false)
  | 39 => ("PaperBreadModel", "random", "I", false)
  | 40 => ("PaperBreadModel", "done", "I", false)
  | 41 => ("PaperBreadModel", "missed", "I", false)
  | 42 => ("PaperBreadModel", "baked", "I", false)
  | 43 => ("PaperBreadModel", "eaten", "I", false)
  | 44 => ("PaperBreadModel", "bakedWet", "I", false)
  | _ => ("PaperBreadModel", "leftOver", "I", false)
def tyX11 : Nat → FieldType := fun k => match k with
  | 0 => .int
  | 1 => .int
  | 2 => .long
  | 3 => .long
  | 4 => .array .int
  | 5 => .array .int
  | 6 => .array .long
  | 7 => .array .byte
  | 8 => .int
  | 9 => .int
  | 10 => .int
  | 11 => .int
  | 12 => .int
  | 13 => .int
  | 14 => .int
  | 15 => .int
  | 16 => .int
  | 17 => .int
  | 18 => .int
  | 19 => .long
  | 20 => .array .int
  | 21 => .array .int
  | 22 => .array .long
  | 23 => .int
  | 24 => .int
  | 25 => .array .int
  | 26 => .array .int
  | 27 => .array .int
  | 28 => .int
  | 29 => .array .int
  | 30 => .array .int
  | 31 => .array .int
  | 32 => .array .int
  | 33 => .int
  | 34 => .array .int
  | 35 => .array .int
  | 36 => .array .int
  | 37 => .boolean
  | 38 => .boolean
  | 39 => .int
  | 40 => .int
  | 41 => .int
  | 42 => .int
  | 43 => .int
  | 44 => .int
  | _ => .int
abbrev wsX110 : List Cond := u_ws RX11 TX11 46
theorem nmX11 : ∀ a, a < 46 → ∀ b, b < 46 → a ≠ b → (TX11 a).2.1 ≠ (TX11 b).2.1 := by decide +kernel
theorem tyX11_ok : ∀ k, k < 46 → parseFieldDescriptor (TX11 k).2.2.1 = some (tyX11 k) := by decide +kernel
abbrev cX11_init : ByteArray := prog_13_method_1_code
def yX11_init : MethodName := ⟨RX11, "<init>", "()V"⟩
abbrev cX11_status : ByteArray := prog_13_method_3_code
def yX11_status : MethodName := ⟨RX11, "status", "()I"⟩
abbrev cX11_top : ByteArray := prog_13_method_4_code
def yX11_top : MethodName := ⟨RX11, "top", "()J"⟩
abbrev cX11_bottom : ByteArray := prog_13_method_5_code
def yX11_bottom : MethodName := ⟨RX11, "bottom", "()J"⟩
abbrev cX11_refuse : ByteArray := prog_13_method_6_code
def yX11_refuse : MethodName := ⟨RX11, "refuse", "(I)I"⟩
abbrev cX11_no : ByteArray := prog_13_method_7_code
def yX11_no : MethodName := ⟨RX11, "no", "(I)Z"⟩
abbrev cX11_isIn : ByteArray := prog_13_method_8_code
def yX11_isIn : MethodName := ⟨RX11, "isIn", "(JJJ)Z"⟩
abbrev cX11_fraction : ByteArray := prog_13_method_9_code
def yX11_fraction : MethodName := ⟨RX11, "fraction", "(JJ)Z"⟩
abbrev cX11_cut : ByteArray := prog_13_method_10_code
def yX11_cut : MethodName := ⟨RX11, "cut", "(IJ)J"⟩
abbrev cX11_tray : ByteArray := prog_13_method_11_code
def yX11_tray : MethodName := ⟨RX11, "tray", "(III)Z"⟩
abbrev cX11_trayed : ByteArray := prog_13_method_12_code
def yX11_trayed : MethodName := ⟨RX11, "trayed", "(I)I"⟩
abbrev cX11_placed : ByteArray := prog_13_method_13_code
def yX11_placed : MethodName := ⟨RX11, "placed", "(II)I"⟩
abbrev cX11_write : ByteArray := prog_13_method_14_code
def yX11_write : MethodName := ⟨RX11, "write", "(IIJ)Z"⟩
abbrev cX11_read : ByteArray := prog_13_method_15_code
def yX11_read : MethodName := ⟨RX11, "read", "(II)J"⟩
abbrev cX11_pour : ByteArray := prog_13_method_16_code
def yX11_pour : MethodName := ⟨RX11, "pour", "(IIIII)Z"⟩
abbrev cX11_numberOf : ByteArray := prog_13_method_17_code
def yX11_numberOf : MethodName := ⟨RX11, "numberOf", "(II)J"⟩
abbrev cX11_isTray : ByteArray := prog_13_method_18_code
def yX11_isTray : MethodName := ⟨RX11, "isTray", "(I)Z"⟩
abbrev cX11_look2 : ByteArray := prog_13_method_19_code
def yX11_look2 : MethodName := ⟨RX11, "look2", "(I)I"⟩
abbrev cX11_isLetter : ByteArray := prog_13_method_20_code
def yX11_isLetter : MethodName := ⟨RX11, "isLetter", "(I)Z"⟩
abbrev cX11_isDigit : ByteArray := prog_13_method_21_code
def yX11_isDigit : MethodName := ⟨RX11, "isDigit", "(I)Z"⟩
abbrev cX11_isSignByte : ByteArray := prog_13_method_22_code
def yX11_isSignByte : MethodName := ⟨RX11, "isSignByte", "(I)Z"⟩
abbrev cX11_next : ByteArray := prog_13_method_23_code
def yX11_next : MethodName := ⟨RX11, "next", "()V"⟩
abbrev cX11_isSign : ByteArray := prog_13_method_24_code
def yX11_isSign : MethodName := ⟨RX11, "isSign", "(I)Z"⟩
abbrev cX11_spelled : ByteArray := prog_13_method_25_code
def yX11_spelled : MethodName := ⟨RX11, "spelled", "(IIIIII)J"⟩
abbrev cX11_isWord : ByteArray := prog_13_method_26_code
def yX11_isWord : MethodName := ⟨RX11, "isWord", "(J)Z"⟩
abbrev cX11_isPerson : ByteArray := prog_13_method_27_code
def yX11_isPerson : MethodName := ⟨RX11, "isPerson", "()Z"⟩
abbrev cX11_isPurse : ByteArray := prog_13_method_28_code
def yX11_isPurse : MethodName := ⟨RX11, "isPurse", "()Z"⟩
abbrev cX11_isOven : ByteArray := prog_13_method_29_code
def yX11_isOven : MethodName := ⟨RX11, "isOven", "()Z"⟩
abbrev cX11_isRain : ByteArray := prog_13_method_30_code
def yX11_isRain : MethodName := ⟨RX11, "isRain", "()Z"⟩
abbrev cX11_isLoaf : ByteArray := prog_13_method_31_code
def yX11_isLoaf : MethodName := ⟨RX11, "isLoaf", "()Z"⟩
abbrev cX11_isBy : ByteArray := prog_13_method_32_code
def yX11_isBy : MethodName := ⟨RX11, "isBy", "()Z"⟩
abbrev cX11_isInWord : ByteArray := prog_13_method_33_code
def yX11_isInWord : MethodName := ⟨RX11, "isInWord", "()Z"⟩
abbrev cX11_isOn : ByteArray := prog_13_method_34_code
def yX11_isOn : MethodName := ⟨RX11, "isOn", "()Z"⟩
abbrev cX11_isSlices : ByteArray := prog_13_method_35_code
def yX11_isSlices : MethodName := ⟨RX11, "isSlices", "()Z"⟩
abbrev cX11_isFlour : ByteArray := prog_13_method_36_code
def yX11_isFlour : MethodName := ⟨RX11, "isFlour", "()Z"⟩
abbrev cX11_isPromise : ByteArray := prog_13_method_37_code
def yX11_isPromise : MethodName := ⟨RX11, "isPromise", "()Z"⟩
abbrev cX11_isOf : ByteArray := prog_13_method_38_code
def yX11_isOf : MethodName := ⟨RX11, "isOf", "()Z"⟩
abbrev cX11_isFrom : ByteArray := prog_13_method_39_code
def yX11_isFrom : MethodName := ⟨RX11, "isFrom", "()Z"⟩
abbrev cX11_isTo : ByteArray := prog_13_method_40_code
def yX11_isTo : MethodName := ⟨RX11, "isTo", "()Z"⟩
abbrev cX11_isFor : ByteArray := prog_13_method_41_code
def yX11_isFor : MethodName := ⟨RX11, "isFor", "()Z"⟩
abbrev cX11_stepWord : ByteArray := prog_13_method_42_code
def yX11_stepWord : MethodName := ⟨RX11, "stepWord", "()I"⟩
abbrev cX11_testWord : ByteArray := prog_13_method_43_code
def yX11_testWord : MethodName := ⟨RX11, "testWord", "()I"⟩
abbrev cX11_isEnd : ByteArray := prog_13_method_44_code
def yX11_isEnd : MethodName := ⟨RX11, "isEnd", "()Z"⟩
abbrev cX11_isKept : ByteArray := prog_13_method_45_code
def yX11_isKept : MethodName := ⟨RX11, "isKept", "()Z"⟩
abbrev cX11_isName : ByteArray := prog_13_method_46_code
def yX11_isName : MethodName := ⟨RX11, "isName", "()Z"⟩
abbrev cX11_fail : ByteArray := prog_13_method_47_code
def yX11_fail : MethodName := ⟨RX11, "fail", "(II)V"⟩
abbrev cX11_wrong : ByteArray := prog_13_method_48_code
def yX11_wrong : MethodName := ⟨RX11, "wrong", "()V"⟩
abbrev cX11_must : ByteArray := prog_13_method_49_code
def yX11_must : MethodName := ⟨RX11, "must", "(Z)V"⟩
abbrev cX11_count : ByteArray := prog_13_method_50_code
def yX11_count : MethodName := ⟨RX11, "count", "(II)I"⟩
abbrev cX11_feed : ByteArray := prog_13_method_51_code
def yX11_feed : MethodName := ⟨RX11, "feed", "(IIIII)I"⟩
abbrev cX11_lay : ByteArray := prog_13_method_52_code
def yX11_lay : MethodName := ⟨RX11, "lay", "(I)V"⟩
abbrev cX11_opens : ByteArray := prog_13_method_53_code
def yX11_opens : MethodName := ⟨RX11, "opens", "(II)Z"⟩
abbrev cX11_isWell : ByteArray := prog_13_method_54_code
def yX11_isWell : MethodName := ⟨RX11, "isWell", "()Z"⟩
abbrev cX11_fault : ByteArray := prog_13_method_55_code
def yX11_fault : MethodName := ⟨RX11, "fault", "(I)I"⟩
abbrev cX11_named : ByteArray := prog_13_method_56_code
def yX11_named : MethodName := ⟨RX11, "named", "(III)I"⟩
abbrev cX11_personNamed : ByteArray := prog_13_method_57_code
def yX11_personNamed : MethodName := ⟨RX11, "personNamed", "(I)I"⟩
abbrev cX11_ovenNamed : ByteArray := prog_13_method_58_code
def yX11_ovenNamed : MethodName := ⟨RX11, "ovenNamed", "(I)I"⟩
abbrev cX11_loafNamed : ByteArray := prog_13_method_59_code
def yX11_loafNamed : MethodName := ⟨RX11, "loafNamed", "(I)I"⟩
abbrev cX11_readNew : ByteArray := prog_13_method_60_code
def yX11_readNew : MethodName := ⟨RX11, "readNew", "(I)V"⟩
abbrev cX11_told : ByteArray := prog_13_method_61_code
def yX11_told : MethodName := ⟨RX11, "told", "(II)I"⟩
abbrev cX11_readTold : ByteArray := prog_13_method_62_code
def yX11_readTold : MethodName := ⟨RX11, "readTold", "(II)I"⟩
abbrev cX11_readPerson : ByteArray := prog_13_method_63_code
def yX11_readPerson : MethodName := ⟨RX11, "readPerson", "()V"⟩
abbrev cX11_readOven : ByteArray := prog_13_method_64_code
def yX11_readOven : MethodName := ⟨RX11, "readOven", "()V"⟩
abbrev cX11_readLoaf : ByteArray := prog_13_method_65_code
def yX11_readLoaf : MethodName := ⟨RX11, "readLoaf", "()V"⟩
abbrev cX11_readPart : ByteArray := prog_13_method_66_code
def yX11_readPart : MethodName := ⟨RX11, "readPart", "(II)V"⟩
abbrev cX11_readPromise : ByteArray := prog_13_method_67_code
def yX11_readPromise : MethodName := ⟨RX11, "readPromise", "()V"⟩
abbrev cX11_town : ByteArray := prog_13_method_68_code
def yX11_town : MethodName := ⟨RX11, "town", "(I)I"⟩
abbrev cX11_readTest : ByteArray := prog_13_method_69_code
def yX11_readTest : MethodName := ⟨RX11, "readTest", "(I)V"⟩
abbrev cX11_readRest : ByteArray := prog_13_method_70_code
def yX11_readRest : MethodName := ⟨RX11, "readRest", "(I)V"⟩
abbrev cX11_readStep : ByteArray := prog_13_method_71_code
def yX11_readStep : MethodName := ⟨RX11, "readStep", "(I)V"⟩
abbrev cX11_days : ByteArray := prog_13_method_72_code
def yX11_days : MethodName := ⟨RX11, "days", "(I)I"⟩
abbrev cX11_isPersonAt : ByteArray := prog_13_method_73_code
def yX11_isPersonAt : MethodName := ⟨RX11, "isPersonAt", "(I)Z"⟩
abbrev cX11_isLoafAt : ByteArray := prog_13_method_74_code
def yX11_isLoafAt : MethodName := ⟨RX11, "isLoafAt", "(I)Z"⟩
abbrev cX11_isPromiseAt : ByteArray := prog_13_method_75_code
def yX11_isPromiseAt : MethodName := ⟨RX11, "isPromiseAt", "(I)Z"⟩
abbrev cX11_isBaked : ByteArray := prog_13_method_76_code
def yX11_isBaked : MethodName := ⟨RX11, "isBaked", "(I)Z"⟩
abbrev cX11_isPaper : ByteArray := prog_13_method_77_code
def yX11_isPaper : MethodName := ⟨RX11, "isPaper", "(I)Z"⟩
abbrev cX11_part : ByteArray := prog_13_method_78_code
def yX11_part : MethodName := ⟨RX11, "part", "(I)I"⟩
abbrev cX11_isMade : ByteArray := prog_13_method_79_code
def yX11_isMade : MethodName := ⟨RX11, "isMade", "(I)Z"⟩
abbrev cX11_isOfLoaf : ByteArray := prog_13_method_80_code
def yX11_isOfLoaf : MethodName := ⟨RX11, "isOfLoaf", "(II)Z"⟩
abbrev cX11_has : ByteArray := prog_13_method_81_code
def yX11_has : MethodName := ⟨RX11, "has", "(II)Z"⟩
abbrev cX11_bakedSet : ByteArray := prog_13_method_82_code
def yX11_bakedSet : MethodName := ⟨RX11, "bakedSet", "()I"⟩
abbrev cX11_many : ByteArray := prog_13_method_83_code
def yX11_many : MethodName := ⟨RX11, "many", "(I)I"⟩
abbrev cX11_person : ByteArray := prog_13_method_84_code
def yX11_person : MethodName := ⟨RX11, "person", "(II)I"⟩
abbrev cX11_loaf : ByteArray := prog_13_method_85_code
def yX11_loaf : MethodName := ⟨RX11, "loaf", "(II)I"⟩
abbrev cX11_promise : ByteArray := prog_13_method_86_code
def yX11_promise : MethodName := ⟨RX11, "promise", "(II)I"⟩
abbrev cX11_holdsOf : ByteArray := prog_13_method_87_code
def yX11_holdsOf : MethodName := ⟨RX11, "holdsOf", "(II)I"⟩
abbrev cX11_holds : ByteArray := prog_13_method_88_code
def yX11_holds : MethodName := ⟨RX11, "holds", "(II)I"⟩
abbrev cX11_deepens : ByteArray := prog_13_method_89_code
def yX11_deepens : MethodName := ⟨RX11, "deepens", "()V"⟩
abbrev cX11_deep : ByteArray := prog_13_method_90_code
def yX11_deep : MethodName := ⟨RX11, "deep", "(I)I"⟩
abbrev cX11_depth : ByteArray := prog_13_method_91_code
def yX11_depth : MethodName := ⟨RX11, "depth", "(I)I"⟩
abbrev cX11_turnOf : ByteArray := prog_13_method_92_code
def yX11_turnOf : MethodName := ⟨RX11, "turnOf", "(II)I"⟩
abbrev cX11_first : ByteArray := prog_13_method_93_code
def yX11_first : MethodName := ⟨RX11, "first", "(III)I"⟩
abbrev cX11_lines : ByteArray := prog_13_method_94_code
def yX11_lines : MethodName := ⟨RX11, "lines", "(I)V"⟩
abbrev cX11_comes : ByteArray := prog_13_method_95_code
def yX11_comes : MethodName := ⟨RX11, "comes", "(IZ)I"⟩
abbrev cX11_deals : ByteArray := prog_13_method_96_code
def yX11_deals : MethodName := ⟨RX11, "deals", "(IZ)V"⟩
abbrev cX11_getsOf : ByteArray := prog_13_method_97_code
def yX11_getsOf : MethodName := ⟨RX11, "getsOf", "(IIZ)I"⟩
abbrev cX11_line : ByteArray := prog_13_method_98_code
def yX11_line : MethodName := ⟨RX11, "line", "(II)I"⟩
abbrev cX11_whose : ByteArray := prog_13_method_99_code
def yX11_whose : MethodName := ⟨RX11, "whose", "(IIZ)I"⟩
abbrev cX11_gets : ByteArray := prog_13_method_100_code
def yX11_gets : MethodName := ⟨RX11, "gets", "(IIZ)I"⟩
abbrev cX11_unmet : ByteArray := prog_13_method_101_code
def yX11_unmet : MethodName := ⟨RX11, "unmet", "(IZ)I"⟩
abbrev cX11_owesOf : ByteArray := prog_13_method_102_code
def yX11_owesOf : MethodName := ⟨RX11, "owesOf", "(II)I"⟩
abbrev cX11_shame : ByteArray := prog_13_method_103_code
def yX11_shame : MethodName := ⟨RX11, "shame", "(IZ)I"⟩
abbrev cX11_mean : ByteArray := prog_13_method_104_code
def yX11_mean : MethodName := ⟨RX11, "mean", "(III)Z"⟩
abbrev cX11_between : ByteArray := prog_13_method_105_code
def yX11_between : MethodName := ⟨RX11, "between", "(II)I"⟩
abbrev cX11_owing : ByteArray := prog_13_method_106_code
def yX11_owing : MethodName := ⟨RX11, "owing", "(I)I"⟩
abbrev cX11_netOf : ByteArray := prog_13_method_107_code
def yX11_netOf : MethodName := ⟨RX11, "netOf", "(I)I"⟩
abbrev cX11_net : ByteArray := prog_13_method_108_code
def yX11_net : MethodName := ⟨RX11, "net", "(I)I"⟩
abbrev cX11_handOvers : ByteArray := prog_13_method_109_code
def yX11_handOvers : MethodName := ⟨RX11, "handOvers", "()I"⟩
abbrev cX11_goesRound : ByteArray := prog_13_method_110_code
def yX11_goesRound : MethodName := ⟨RX11, "goesRound", "(III)Z"⟩
abbrev cX11_ring : ByteArray := prog_13_method_111_code
def yX11_ring : MethodName := ⟨RX11, "ring", "()I"⟩
abbrev cX11_ringAt : ByteArray := prog_13_method_112_code
def yX11_ringAt : MethodName := ⟨RX11, "ringAt", "(I)I"⟩
abbrev cX11_isOpen : ByteArray := prog_13_method_113_code
def yX11_isOpen : MethodName := ⟨RX11, "isOpen", "(I)Z"⟩
abbrev cX11_saved : ByteArray := prog_13_method_114_code
def yX11_saved : MethodName := ⟨RX11, "saved", "(III)I"⟩
abbrev cX11_faces : ByteArray := prog_13_method_115_code
def yX11_faces : MethodName := ⟨RX11, "faces", "()I"⟩
abbrev cX11_isHeld : ByteArray := prog_13_method_116_code
def yX11_isHeld : MethodName := ⟨RX11, "isHeld", "(I)Z"⟩
abbrev cX11_keeps : ByteArray := prog_13_method_117_code
def yX11_keeps : MethodName := ⟨RX11, "keeps", "(III)I"⟩
abbrev cX11_burst : ByteArray := prog_13_method_118_code
def yX11_burst : MethodName := ⟨RX11, "burst", "()I"⟩
abbrev cX11_cuts : ByteArray := prog_13_method_119_code
def yX11_cuts : MethodName := ⟨RX11, "cuts", "(IIIII)I"⟩
abbrev cX11_auction : ByteArray := prog_13_method_120_code
def yX11_auction : MethodName := ⟨RX11, "auction", "(III)I"⟩
abbrev cX11_makes : ByteArray := prog_13_method_121_code
def yX11_makes : MethodName := ⟨RX11, "makes", "(IIIII)I"⟩
abbrev cX11_make : ByteArray := prog_13_method_122_code
def yX11_make : MethodName := ⟨RX11, "make", "(IIIII)I"⟩
abbrev cX11_breaks : ByteArray := prog_13_method_123_code
def yX11_breaks : MethodName := ⟨RX11, "breaks", "(I)Z"⟩
abbrev cX11_letGo : ByteArray := prog_13_method_124_code
def yX11_letGo : MethodName := ⟨RX11, "letGo", "(I)Z"⟩
abbrev cX11_isWetOven : ByteArray := prog_13_method_125_code
def yX11_isWetOven : MethodName := ⟨RX11, "isWetOven", "(I)Z"⟩
abbrev cX11_bakes : ByteArray := prog_13_method_126_code
def yX11_bakes : MethodName := ⟨RX11, "bakes", "(I)I"⟩
abbrev cX11_bake : ByteArray := prog_13_method_127_code
def yX11_bake : MethodName := ⟨RX11, "bake", "(I)I"⟩
abbrev cX11_pass : ByteArray := prog_13_method_128_code
def yX11_pass : MethodName := ⟨RX11, "pass", "(I)I"⟩
abbrev cX11_eats : ByteArray := prog_13_method_129_code
def yX11_eats : MethodName := ⟨RX11, "eats", "(II)I"⟩
abbrev cX11_eat : ByteArray := prog_13_method_130_code
def yX11_eat : MethodName := ⟨RX11, "eat", "(II)I"⟩
abbrev cX11_pays : ByteArray := prog_13_method_131_code
def yX11_pays : MethodName := ⟨RX11, "pays", "(III)Z"⟩
abbrev cX11_pay : ByteArray := prog_13_method_132_code
def yX11_pay : MethodName := ⟨RX11, "pay", "(III)Z"⟩
abbrev cX11_draw : ByteArray := prog_13_method_133_code
def yX11_draw : MethodName := ⟨RX11, "draw", "()I"⟩
abbrev cX11_waits : ByteArray := prog_13_method_134_code
def yX11_waits : MethodName := ⟨RX11, "waits", "(I)Z"⟩
abbrev cX11_does : ByteArray := prog_13_method_135_code
def yX11_does : MethodName := ⟨RX11, "does", "(I)Z"⟩
abbrev cX11_isSo : ByteArray := prog_13_method_136_code
def yX11_isSo : MethodName := ⟨RX11, "isSo", "(I)Z"⟩
abbrev cX11_doOne : ByteArray := prog_13_method_137_code
def yX11_doOne : MethodName := ⟨RX11, "doOne", "(I)V"⟩
abbrev cX11_doAll : ByteArray := prog_13_method_138_code
def yX11_doAll : MethodName := ⟨RX11, "doAll", "(II)V"⟩
abbrev cX11_lives : ByteArray := prog_13_method_139_code
def yX11_lives : MethodName := ⟨RX11, "lives", "(I)V"⟩
abbrev cX11_live : ByteArray := prog_13_method_140_code
def yX11_live : MethodName := ⟨RX11, "live", "(I)I"⟩
abbrev cX11_lived : ByteArray := prog_13_method_141_code
def yX11_lived : MethodName := ⟨RX11, "lived", "(I)I"⟩
abbrev cX11_odds : ByteArray := prog_13_method_142_code
def yX11_odds : MethodName := ⟨RX11, "odds", "(IIII)Z"⟩
abbrev cX11_copy : ByteArray := prog_13_method_143_code
def yX11_copy : MethodName := ⟨RX11, "copy", "(II)V"⟩
abbrev cX11_mark : ByteArray := prog_13_method_144_code
def yX11_mark : MethodName := ⟨RX11, "mark", "()I"⟩
abbrev cX11_back : ByteArray := prog_13_method_145_code
def yX11_back : MethodName := ⟨RX11, "back", "()I"⟩
def RJx145de : String := "java/io/Serializable"
def TJx145de : u_T := fun k => match k with
  | _ => ("", "", "", false)
def tyJx145de : Nat → FieldType := fun k => match k with
  | _ => .int
abbrev wsJx145de0 : List Cond := u_ws RJx145de TJx145de 0
theorem nmJx145de : ∀ a, a < 0 → ∀ b, b < 0 → a ≠ b → (TJx145de a).2.1 ≠ (TJx145de b).2.1 := by decide +kernel
theorem tyJx145de_ok : ∀ k, k < 0 → parseFieldDescriptor (TJx145de k).2.2.1 = some (tyJx145de k) := by decide +kernel
def RJx9f9b0 : String := "java/lang/CharSequence"
def TJx9f9b0 : u_T := fun k => match k with
  | _ => ("", "", "", false)
def tyJx9f9b0 : Nat → FieldType := fun k => match k with
  | _ => .int
abbrev wsJx9f9b00 : List Cond := u_ws RJx9f9b0 TJx9f9b0 0
theorem nmJx9f9b0 : ∀ a, a < 0 → ∀ b, b < 0 → a ≠ b → (TJx9f9b0 a).2.1 ≠ (TJx9f9b0 b).2.1 := by decide +kernel
theorem tyJx9f9b0_ok : ∀ k, k < 0 → parseFieldDescriptor (TJx9f9b0 k).2.2.1 = some (tyJx9f9b0 k) := by decide +kernel
def RJxb160c : String := "java/lang/Comparable"
def TJxb160c : u_T := fun k => match k with
  | _ => ("", "", "", false)
def tyJxb160c : Nat → FieldType := fun k => match k with
  | _ => .int
abbrev wsJxb160c0 : List Cond := u_ws RJxb160c TJxb160c 0
theorem nmJxb160c : ∀ a, a < 0 → ∀ b, b < 0 → a ≠ b → (TJxb160c a).2.1 ≠ (TJxb160c b).2.1 := by decide +kernel
theorem tyJxb160c_ok : ∀ k, k < 0 → parseFieldDescriptor (TJxb160c k).2.2.1 = some (tyJxb160c k) := by decide +kernel
def RJ9 : String := "java/lang/Math"
def TJ9 : u_T := fun k => match k with
  | _ => ("", "", "", false)
def tyJ9 : Nat → FieldType := fun k => match k with
  | _ => .int
abbrev wsJ90 : List Cond := u_ws RJ9 TJ9 0
theorem nmJ9 : ∀ a, a < 0 → ∀ b, b < 0 → a ≠ b → (TJ9 a).2.1 ≠ (TJ9 b).2.1 := by decide +kernel
theorem tyJ9_ok : ∀ k, k < 0 → parseFieldDescriptor (TJ9 k).2.2.1 = some (tyJ9 k) := by decide +kernel
abbrev cJ9_abs_067f4 : ByteArray := prog_14_method_61_code
def yJ9_abs_067f4 : MethodName := ⟨RJ9, "abs", "(J)J"⟩
abbrev cJ9_max_7cf53 : ByteArray := prog_14_method_65_code
def yJ9_max_7cf53 : MethodName := ⟨RJ9, "max", "(II)I"⟩
abbrev cJ9_max_f86c9 : ByteArray := prog_14_method_66_code
def yJ9_max_f86c9 : MethodName := ⟨RJ9, "max", "(JJ)J"⟩
abbrev cJ9_min_7cf53 : ByteArray := prog_14_method_69_code
def yJ9_min_7cf53 : MethodName := ⟨RJ9, "min", "(II)I"⟩
def RJ0 : String := "java/lang/String"
def TJ0 : u_T := fun k => match k with
  | _ => ("", "", "", false)
def tyJ0 : Nat → FieldType := fun k => match k with
  | _ => .int
abbrev wsJ00 : List Cond := u_ws RJ0 TJ0 0
theorem nmJ0 : ∀ a, a < 0 → ∀ b, b < 0 → a ≠ b → (TJ0 a).2.1 ≠ (TJ0 b).2.1 := by decide +kernel
theorem tyJ0_ok : ∀ k, k < 0 → parseFieldDescriptor (TJ0 k).2.2.1 = some (tyJ0 k) := by decide +kernel
abbrev cJ0_length_8abf5 : ByteArray := prog_15_method_54_code
def yJ0_length_8abf5 : MethodName := ⟨RJ0, "length", "()I"⟩
abbrev cJ0_charAt_5068e : ByteArray := prog_15_method_56_code
def yJ0_charAt_5068e : MethodName := ⟨RJ0, "charAt", "(I)C"⟩
abbrev cJ0_coder_7d493 : ByteArray := prog_15_method_152_code
def yJ0_coder_7d493 : MethodName := ⟨RJ0, "coder", "()B"⟩
abbrev cJ0_isLatin1_aae02 : ByteArray := prog_15_method_154_code
def yJ0_isLatin1_aae02 : MethodName := ⟨RJ0, "isLatin1", "()Z"⟩
abbrev cJ0_checkIndex_df160 : ByteArray := prog_15_method_155_code
def yJ0_checkIndex_df160 : MethodName := ⟨RJ0, "checkIndex", "(II)V"⟩
def RJ1 : String := "java/lang/StringLatin1"
def TJ1 : u_T := fun k => match k with
  | _ => ("", "", "", false)
def tyJ1 : Nat → FieldType := fun k => match k with
  | _ => .int
abbrev wsJ10 : List Cond := u_ws RJ1 TJ1 0
theorem nmJ1 : ∀ a, a < 0 → ∀ b, b < 0 → a ≠ b → (TJ1 a).2.1 ≠ (TJ1 b).2.1 := by decide +kernel
theorem tyJ1_ok : ∀ k, k < 0 → parseFieldDescriptor (TJ1 k).2.2.1 = some (tyJ1 k) := by decide +kernel
abbrev cJ1_charAt_3b067 : ByteArray := prog_16_method_2_code
def yJ1_charAt_3b067 : MethodName := ⟨RJ1, "charAt", "([BI)C"⟩
def RJ2 : String := "java/lang/StringUTF16"
def TJ2 : u_T := fun k => match k with
  | _ => ("", "", "", false)
def tyJ2 : Nat → FieldType := fun k => match k with
  | _ => .int
abbrev wsJ20 : List Cond := u_ws RJ2 TJ2 0
theorem nmJ2 : ∀ a, a < 0 → ∀ b, b < 0 → a ≠ b → (TJ2 a).2.1 ≠ (TJ2 b).2.1 := by decide +kernel
theorem tyJ2_ok : ∀ k, k < 0 → parseFieldDescriptor (TJ2 k).2.2.1 = some (tyJ2 k) := by decide +kernel
abbrev cJ2_getChar_3b067 : ByteArray := prog_17_method_5_code
def yJ2_getChar_3b067 : MethodName := ⟨RJ2, "getChar", "([BI)C"⟩
abbrev cJ2_length_9d52b : ByteArray := prog_17_method_6_code
def yJ2_length_9d52b : MethodName := ⟨RJ2, "length", "([B)I"⟩
abbrev cJ2_charAt_3b067 : ByteArray := prog_17_method_83_code
def yJ2_charAt_3b067 : MethodName := ⟨RJ2, "charAt", "([BI)C"⟩
abbrev cJ2_checkIndex_2214a : ByteArray := prog_17_method_91_code
def yJ2_checkIndex_2214a : MethodName := ⟨RJ2, "checkIndex", "(I[B)V"⟩
def RJ10 : String := "java/lang/System"
def TJ10 : u_T := fun k => match k with
  | _ => ("", "", "", false)
def tyJ10 : Nat → FieldType := fun k => match k with
  | _ => .int
abbrev wsJ100 : List Cond := u_ws RJ10 TJ10 0
theorem nmJ10 : ∀ a, a < 0 → ∀ b, b < 0 → a ≠ b → (TJ10 a).2.1 ≠ (TJ10 b).2.1 := by decide +kernel
theorem tyJ10_ok : ∀ k, k < 0 → parseFieldDescriptor (TJ10 k).2.2.1 = some (tyJ10 k) := by decide +kernel
def RJxfd54e : String := "java/lang/constant/Constable"
def TJxfd54e : u_T := fun k => match k with
  | _ => ("", "", "", false)
def tyJxfd54e : Nat → FieldType := fun k => match k with
  | _ => .int
abbrev wsJxfd54e0 : List Cond := u_ws RJxfd54e TJxfd54e 0
theorem nmJxfd54e : ∀ a, a < 0 → ∀ b, b < 0 → a ≠ b → (TJxfd54e a).2.1 ≠ (TJxfd54e b).2.1 := by decide +kernel
theorem tyJxfd54e_ok : ∀ k, k < 0 → parseFieldDescriptor (TJxfd54e k).2.2.1 = some (tyJxfd54e k) := by decide +kernel
def RJx3cf43 : String := "java/lang/constant/ConstantDesc"
def TJx3cf43 : u_T := fun k => match k with
  | _ => ("", "", "", false)
def tyJx3cf43 : Nat → FieldType := fun k => match k with
  | _ => .int
abbrev wsJx3cf430 : List Cond := u_ws RJx3cf43 TJx3cf43 0
theorem nmJx3cf43 : ∀ a, a < 0 → ∀ b, b < 0 → a ≠ b → (TJx3cf43 a).2.1 ≠ (TJx3cf43 b).2.1 := by decide +kernel
theorem tyJx3cf43_ok : ∀ k, k < 0 → parseFieldDescriptor (TJx3cf43 k).2.2.1 = some (tyJx3cf43 k) := by decide +kernel
def RJ7 : String := "java/util/Arrays"
def TJ7 : u_T := fun k => match k with
  | _ => ("", "", "", false)
def tyJ7 : Nat → FieldType := fun k => match k with
  | _ => .int
abbrev wsJ70 : List Cond := u_ws RJ7 TJ7 0
theorem nmJ7 : ∀ a, a < 0 → ∀ b, b < 0 → a ≠ b → (TJ7 a).2.1 ≠ (TJ7 b).2.1 := by decide +kernel
theorem tyJ7_ok : ∀ k, k < 0 → parseFieldDescriptor (TJ7 k).2.2.1 = some (tyJ7 k) := by decide +kernel
abbrev cJ7_fill_d0a16 : ByteArray := prog_19_method_101_code
def yJ7_fill_d0a16 : MethodName := ⟨RJ7, "fill", "([JJ)V"⟩
abbrev cJ7_fill_53178 : ByteArray := prog_19_method_103_code
def yJ7_fill_53178 : MethodName := ⟨RJ7, "fill", "([II)V"⟩
def RJ3 : String := "jdk/internal/util/Preconditions"
def TJ3 : u_T := fun k => match k with
  | _ => ("", "", "", false)
def tyJ3 : Nat → FieldType := fun k => match k with
  | _ => .int
abbrev wsJ30 : List Cond := u_ws RJ3 TJ3 0
theorem nmJ3 : ∀ a, a < 0 → ∀ b, b < 0 → a ≠ b → (TJ3 a).2.1 ≠ (TJ3 b).2.1 := by decide +kernel
theorem tyJ3_ok : ∀ k, k < 0 → parseFieldDescriptor (TJ3 k).2.2.1 = some (tyJ3 k) := by decide +kernel
abbrev cJ3_checkIndex_8e157 : ByteArray := prog_20_method_11_code
def yJ3_checkIndex_8e157 : MethodName := ⟨RJ3, "checkIndex", "(IILjava/util/function/BiFunction;)I"⟩
def RL : String := "PaperBreadLaw"
abbrev cL_law : ByteArray := code
def yL_law : MethodName := ⟨RL, "law", "([I)Z"⟩
abbrev vwCl : List vw_C := [(RX0, TX0, 6), (RX1, TX1, 9), (RX2, TX2, 1), (RX3, TX3, 5), (RX4, TX4, 9), (RX5, TX5, 7), (RX6, TX6, 2), (RX7, TX7, 11), (RX8, TX8, 19), (RX9, TX9, 3), (RX10, TX10, 16), (RX11, TX11, 46)]
set_option maxRecDepth 20000 in
theorem inX0 : ∀ w ∈ wsX00, w ∈ lw_tbl := fun w h => by
  have e : wsX00 = ([375, 377, 379, 381, 383, 385] : List Nat).filterMap (fun i => lw_tbl[i]?) := by decide +kernel
  rw [e] at h
  obtain ⟨i, -, hi⟩ := List.mem_filterMap.mp h
  exact List.mem_of_getElem? hi
set_option maxRecDepth 20000 in
theorem inX1 : ∀ w ∈ wsX10, w ∈ lw_tbl := fun w h => by
  have e : wsX10 = ([566, 568, 570, 572, 574, 576, 578, 580, 582] : List Nat).filterMap (fun i => lw_tbl[i]?) := by decide +kernel
  rw [e] at h
  obtain ⟨i, -, hi⟩ := List.mem_filterMap.mp h
  exact List.mem_of_getElem? hi
set_option maxRecDepth 20000 in
theorem inX2 : ∀ w ∈ wsX20, w ∈ lw_tbl := fun w h => by
  have e : wsX20 = ([294] : List Nat).filterMap (fun i => lw_tbl[i]?) := by decide +kernel
  rw [e] at h
  obtain ⟨i, -, hi⟩ := List.mem_filterMap.mp h
  exact List.mem_of_getElem? hi
set_option maxRecDepth 20000 in
theorem inX3 : ∀ w ∈ wsX30, w ∈ lw_tbl := fun w h => by
  have e : wsX30 = ([532, 534, 536, 538, 540] : List Nat).filterMap (fun i => lw_tbl[i]?) := by decide +kernel
  rw [e] at h
  obtain ⟨i, -, hi⟩ := List.mem_filterMap.mp h
  exact List.mem_of_getElem? hi
set_option maxRecDepth 20000 in
theorem inX4 : ∀ w ∈ wsX40, w ∈ lw_tbl := fun w h => by
  have e : wsX40 = ([337, 339, 341, 343, 345, 347, 349, 351, 353] : List Nat).filterMap (fun i => lw_tbl[i]?) := by decide +kernel
  rw [e] at h
  obtain ⟨i, -, hi⟩ := List.mem_filterMap.mp h
  exact List.mem_of_getElem? hi
set_option maxRecDepth 20000 in
theorem inX5 : ∀ w ∈ wsX50, w ∈ lw_tbl := fun w h => by
  have e : wsX50 = ([504, 506, 508, 510, 512, 514, 516] : List Nat).filterMap (fun i => lw_tbl[i]?) := by decide +kernel
  rw [e] at h
  obtain ⟨i, -, hi⟩ := List.mem_filterMap.mp h
  exact List.mem_of_getElem? hi
set_option maxRecDepth 20000 in
theorem inX6 : ∀ w ∈ wsX60, w ∈ lw_tbl := fun w h => by
  have e : wsX60 = ([276, 278] : List Nat).filterMap (fun i => lw_tbl[i]?) := by decide +kernel
  rw [e] at h
  obtain ⟨i, -, hi⟩ := List.mem_filterMap.mp h
  exact List.mem_of_getElem? hi
set_option maxRecDepth 20000 in
theorem inX7 : ∀ w ∈ wsX70, w ∈ lw_tbl := fun w h => by
  have e : wsX70 = ([249, 251, 253, 255, 257, 259, 261, 263, 265, 267, 269] : List Nat).filterMap (fun i => lw_tbl[i]?) := by decide +kernel
  rw [e] at h
  obtain ⟨i, -, hi⟩ := List.mem_filterMap.mp h
  exact List.mem_of_getElem? hi
set_option maxRecDepth 20000 in
theorem inX8 : ∀ w ∈ wsX80, w ∈ lw_tbl := fun w h => by
  have e : wsX80 = ([442, 444, 446, 448, 450, 452, 454, 456, 458, 460, 462, 464, 466, 468, 470, 472, 474, 476, 478] : List Nat).filterMap (fun i => lw_tbl[i]?) := by decide +kernel
  rw [e] at h
  obtain ⟨i, -, hi⟩ := List.mem_filterMap.mp h
  exact List.mem_of_getElem? hi
set_option maxRecDepth 20000 in
theorem inX9 : ∀ w ∈ wsX90, w ∈ lw_tbl := fun w h => by
  have e : wsX90 = ([163, 165, 167] : List Nat).filterMap (fun i => lw_tbl[i]?) := by decide +kernel
  rw [e] at h
  obtain ⟨i, -, hi⟩ := List.mem_filterMap.mp h
  exact List.mem_of_getElem? hi
set_option maxRecDepth 20000 in
theorem inX10 : ∀ w ∈ wsX100, w ∈ lw_tbl := fun w h => by
  have e : wsX100 = ([601, 603, 605, 607, 609, 611, 613, 615, 617, 619, 621, 623, 625, 627, 629, 631] : List Nat).filterMap (fun i => lw_tbl[i]?) := by decide +kernel
  rw [e] at h
  obtain ⟨i, -, hi⟩ := List.mem_filterMap.mp h
  exact List.mem_of_getElem? hi
set_option maxRecDepth 20000 in
theorem inX11 : ∀ w ∈ wsX110, w ∈ lw_tbl := fun w h => by
  have e : wsX110 = ([1428, 1430, 1432, 1434, 1436, 1438, 1440, 1442, 1444, 1446, 1448, 1450, 1452, 1454, 1456, 1458, 1460, 1462, 1464, 1466, 1468, 1470, 1472, 1474, 1476, 1478, 1480, 1482, 1484, 1486, 1488, 1490, 1492, 1494, 1496, 1498, 1500, 1502, 1504, 1506, 1508, 1510, 1512, 1514, 1516, 1518] : List Nat).filterMap (fun i => lw_tbl[i]?) := by decide +kernel
  rw [e] at h
  obtain ⟨i, -, hi⟩ := List.mem_filterMap.mp h
  exact List.mem_of_getElem? hi
end
section
/-- a method: its name, its bytes, its words of locals, what it returns, the number of its own kind -/
abbrev mM : Type := MethodName × ByteArray × Nat × Option FieldType × Nat
def mY (M : mM) : MethodName := M.1
def mC (M : mM) : ByteArray := M.2.1
def mL (M : mM) : Nat := M.2.2.1
def mR (M : mM) : Option FieldType := M.2.2.2.1
def mK (M : mM) : Nat := M.2.2.2.2
/-- what a pool's entry is: a field (kind, place); a method (static, it, how many parameters); an int; a long; 0 arraycopy, 1 STARTS -/
abbrev mZ : Type := (Nat × Nat) ⊕ ((Bool × mM × Nat) ⊕ (Int32 ⊕ (Int64 ⊕ Nat)))
def mAr_fill : mM := (⟨"java/util/Arrays", "fill", "([II)V"⟩, prog_19_method_103_code, 4, none, 14)
def mPb_status : mM := (⟨"PaperBread", "status", "()I"⟩, prog_1_method_2_code, 1, (some .int), 10)
def mPb_top : mM := (⟨"PaperBread", "top", "()J"⟩, prog_1_method_3_code, 1, (some .long), 10)
def mPb_bottom : mM := (⟨"PaperBread", "bottom", "()J"⟩, prog_1_method_4_code, 1, (some .long), 10)
def mPb_tray : mM := (⟨"PaperBread", "tray", "(III)Z"⟩, prog_1_method_5_code, 4, (some .boolean), 10)
def mTr_exists : mM := (⟨"PaperBread$Trays", "exists", "(I)Z"⟩, prog_11_method_2_code, 2, (some .boolean), 9)
def mTr_isSort : mM := (⟨"PaperBread$Trays", "isSort", "(I)Z"⟩, prog_11_method_3_code, 2, (some .boolean), 9)
def mPb_deny : mM := (⟨"PaperBread", "deny", "(I)Z"⟩, prog_1_method_52_code, 2, (some .boolean), 10)
def mTr_lay : mM := (⟨"PaperBread$Trays", "lay", "(III)V"⟩, prog_11_method_9_code, 5, none, 9)
def mPb_grant : mM := (⟨"PaperBread", "grant", "()Z"⟩, prog_1_method_51_code, 1, (some .boolean), 10)
def mPb_write : mM := (⟨"PaperBread", "write", "(IIJ)Z"⟩, prog_1_method_6_code, 6, (some .boolean), 10)
def mTr_whyNot : mM := (⟨"PaperBread$Trays", "whyNot", "(II)I"⟩, prog_11_method_8_code, 3, (some .int), 9)
def mTr_isMissing : mM := (⟨"PaperBread$Trays", "isMissing", "(I)Z"⟩, prog_11_method_4_code, 2, (some .boolean), 9)
def mTr_hasRow : mM := (⟨"PaperBread$Trays", "hasRow", "(III)Z"⟩, prog_11_method_7_code, 4, (some .boolean), 9)
def mTr_lengthOf : mM := (⟨"PaperBread$Trays", "lengthOf", "(I)I"⟩, prog_11_method_5_code, 2, (some .int), 9)
def mTr_put : mM := (⟨"PaperBread$Trays", "put", "(IIJ)V"⟩, prog_11_method_10_code, 5, none, 9)
def mTr_cutTo : mM := (⟨"PaperBread$Trays", "cutTo", "(IJ)J"⟩, prog_11_method_15_code, 3, (some .long), 9)
def mPb_read : mM := (⟨"PaperBread", "read", "(II)J"⟩, prog_1_method_7_code, 4, (some .long), 10)
def mPb_refuse : mM := (⟨"PaperBread", "refuse", "(I)I"⟩, prog_1_method_50_code, 2, (some .int), 10)
def mTr_at : mM := (⟨"PaperBread$Trays", "at", "(II)J"⟩, prog_11_method_11_code, 3, (some .long), 9)
def mPb_pour : mM := (⟨"PaperBread", "pour", "(IIIII)Z"⟩, prog_1_method_8_code, 6, (some .boolean), 10)
def mTr_alike : mM := (⟨"PaperBread$Trays", "alike", "(II)Z"⟩, prog_11_method_6_code, 3, (some .boolean), 9)
def mTr_move : mM := (⟨"PaperBread$Trays", "move", "(IIIII)V"⟩, prog_11_method_12_code, 6, none, 9)
def mPb_feed : mM := (⟨"PaperBread", "feed", "(IIIII)I"⟩, prog_1_method_9_code, 7, (some .int), 10)
def mTo_hasRoomFor : mM := (⟨"PaperBread$Tokens", "hasRoomFor", "(I)Z"⟩, prog_9_method_2_code, 2, (some .boolean), 7)
def mTo_append : mM := (⟨"PaperBread$Tokens", "append", "(I)V"⟩, prog_9_method_3_code, 3, none, 7)
def mPb_town : mM := (⟨"PaperBread", "town", "(I)I"⟩, prog_1_method_10_code, 3, (some .int), 10)
def mTe_readTown : mM := (⟨"PaperBread$Texts", "readTown", "(LPaperBread$Town;I)Z"⟩, prog_8_method_2_code, 4, (some .boolean), 6)
def mTw_clear : mM := (⟨"PaperBread$Town", "clear", "()V"⟩, prog_10_method_2_code, 1, none, 8)
def mNa_clear : mM := (⟨"PaperBread$Names", "clear", "()V"⟩, prog_4_method_2_code, 1, none, 2)
def mAr_filll : mM := (⟨"java/util/Arrays", "fill", "([JJ)V"⟩, prog_19_method_101_code, 5, none, 14)
def mDa_clear : mM := (⟨"PaperBread$Days", "clear", "()V"⟩, prog_2_method_2_code, 1, none, 0)
def mTo_open : mM := (⟨"PaperBread$Tokens", "open", "(I)V"⟩, prog_9_method_4_code, 2, none, 7)
def mMa_min : mM := (⟨"java/lang/Math", "min", "(II)I"⟩, prog_14_method_69_code, 2, (some .int), 13)
def mMa_max : mM := (⟨"java/lang/Math", "max", "(II)I"⟩, prog_14_method_65_code, 2, (some .int), 13)
def mTo_advance : mM := (⟨"PaperBread$Tokens", "advance", "()V"⟩, prog_9_method_5_code, 3, none, 7)
def mTo_cutWord : mM := (⟨"PaperBread$Tokens", "cutWord", "()V"⟩, prog_9_method_6_code, 4, none, 7)
def mTo_cutNumber : mM := (⟨"PaperBread$Tokens", "cutNumber", "()V"⟩, prog_9_method_7_code, 3, none, 7)
def mTo_goesOn : mM := (⟨"PaperBread$Tokens", "goesOn", "()Z"⟩, prog_9_method_8_code, 1, (some .boolean), 7)
def mTo_wordHere : mM := (⟨"PaperBread$Tokens", "wordHere", "()I"⟩, prog_9_method_12_code, 2, (some .int), 7)
def mTe_readPerson : mM := (⟨"PaperBread$Texts", "readPerson", "(LPaperBread$Town;)V"⟩, prog_8_method_5_code, 5, none, 6)
def mTe_beginPart : mM := (⟨"PaperBread$Texts", "beginPart", "(IZ)V"⟩, prog_8_method_3_code, 3, none, 6)
def mTo_blame : mM := (⟨"PaperBread$Tokens", "blame", "(I)V"⟩, prog_9_method_9_code, 2, none, 7)
def mTo_takeWord : mM := (⟨"PaperBread$Tokens", "takeWord", "(I)V"⟩, prog_9_method_14_code, 2, none, 7)
def mTo_isWord : mM := (⟨"PaperBread$Tokens", "isWord", "(I)Z"⟩, prog_9_method_11_code, 2, (some .boolean), 7)
def mTo_misplaced : mM := (⟨"PaperBread$Tokens", "misplaced", "()V"⟩, prog_9_method_10_code, 1, none, 7)
def mTo_takeNewName : mM := (⟨"PaperBread$Tokens", "takeNewName", "(LPaperBread$Names;)J"⟩, prog_9_method_19_code, 4, (some .long), 7)
def mTo_seesName : mM := (⟨"PaperBread$Tokens", "seesName", "()Z"⟩, prog_9_method_18_code, 1, (some .boolean), 7)
def mNa_isTaken : mM := (⟨"PaperBread$Names", "isTaken", "(J)Z"⟩, prog_4_method_6_code, 4, (some .boolean), 2)
def mTo_skips : mM := (⟨"PaperBread$Tokens", "skips", "(I)Z"⟩, prog_9_method_13_code, 3, (some .boolean), 7)
def mTo_takeNumber : mM := (⟨"PaperBread$Tokens", "takeNumber", "(II)I"⟩, prog_9_method_17_code, 4, (some .int), 7)
def mTe_endsPart : mM := (⟨"PaperBread$Texts", "endsPart", "()Z"⟩, prog_8_method_4_code, 1, (some .boolean), 6)
def mTo_takeSign : mM := (⟨"PaperBread$Tokens", "takeSign", "(I)V"⟩, prog_9_method_15_code, 2, none, 7)
def mTw_addPerson : mM := (⟨"PaperBread$Town", "addPerson", "(JI)V"⟩, prog_10_method_4_code, 4, none, 8)
def mNa_give : mM := (⟨"PaperBread$Names", "give", "(IIJ)V"⟩, prog_4_method_4_code, 6, none, 2)
def mTe_readOven : mM := (⟨"PaperBread$Texts", "readOven", "(LPaperBread$Town;)V"⟩, prog_8_method_6_code, 5, none, 6)
def mTw_addOven : mM := (⟨"PaperBread$Town", "addOven", "(JI)V"⟩, prog_10_method_5_code, 4, none, 8)
def mTe_readLoaf : mM := (⟨"PaperBread$Texts", "readLoaf", "(LPaperBread$Town;)V"⟩, prog_8_method_7_code, 10, none, 6)
def mTo_takeName : mM := (⟨"PaperBread$Tokens", "takeName", "(LPaperBread$Names;II)I"⟩, prog_9_method_20_code, 5, (some .int), 7)
def mNa_numberOf : mM := (⟨"PaperBread$Names", "numberOf", "(IJ)I"⟩, prog_4_method_5_code, 5, (some .int), 2)
def mTw_addLoaf : mM := (⟨"PaperBread$Town", "addLoaf", "(JIIIII)V"⟩, prog_10_method_6_code, 8, none, 8)
def mTw_hasPerson : mM := (⟨"PaperBread$Town", "hasPerson", "(I)Z"⟩, prog_10_method_7_code, 2, (some .boolean), 8)
def mTe_readTownPromise : mM := (⟨"PaperBread$Texts", "readTownPromise", "(LPaperBread$Town;)V"⟩, prog_8_method_8_code, 2, none, 6)
def mTe_readPromise : mM := (⟨"PaperBread$Texts", "readPromise", "(LPaperBread$Names;)V"⟩, prog_8_method_9_code, 2, none, 6)
def mTw_handOn : mM := (⟨"PaperBread$Town", "handOn", "(IIIII)I"⟩, prog_10_method_16_code, 7, (some .int), 8)
def mPr_hasRoom : mM := (⟨"PaperBread$Promises", "hasRoom", "()Z"⟩, prog_6_method_4_code, 1, (some .boolean), 4)
def mPb_keepFault : mM := (⟨"PaperBread", "keepFault", "()V"⟩, prog_1_method_53_code, 1, none, 10)
def mPb_carry : mM := (⟨"PaperBread", "carry", "(LPaperBread$Town;LPaperBread$Town;)V"⟩, prog_1_method_58_code, 2, none, 10)
def mTw_copyOf : mM := (⟨"PaperBread$Town", "copyOf", "(LPaperBread$Town;)V"⟩, prog_10_method_3_code, 2, none, 8)
def mNa_copyOf : mM := (⟨"PaperBread$Names", "copyOf", "(LPaperBread$Names;)V"⟩, prog_4_method_3_code, 2, none, 2)
def mPr_copyOf : mM := (⟨"PaperBread$Promises", "copyOf", "(LPaperBread$Promises;)V"⟩, prog_6_method_2_code, 2, none, 4)
def mDa_copyOf : mM := (⟨"PaperBread$Days", "copyOf", "(LPaperBread$Days;)V"⟩, prog_2_method_3_code, 2, none, 0)
def mPb_answer : mM := (⟨"PaperBread", "answer", "(I)I"⟩, prog_1_method_49_code, 2, (some .int), 10)
def mPb_days : mM := (⟨"PaperBread", "days", "(I)I"⟩, prog_1_method_11_code, 3, (some .int), 10)
def mTe_readDays : mM := (⟨"PaperBread$Texts", "readDays", "(LPaperBread$Names;LPaperBread$Days;I)Z"⟩, prog_8_method_10_code, 6, (some .boolean), 6)
def mTe_readEnd : mM := (⟨"PaperBread$Texts", "readEnd", "(LPaperBread$Days;)V"⟩, prog_8_method_11_code, 2, none, 6)
def mDa_close : mM := (⟨"PaperBread$Days", "close", "([I)V"⟩, prog_2_method_7_code, 3, none, 0)
def mDa_add : mM := (⟨"PaperBread$Days", "add", "(I[I)V"⟩, prog_2_method_5_code, 5, none, 0)
def mTe_mayStepHere : mM := (⟨"PaperBread$Texts", "mayStepHere", "(ILPaperBread$Days;)Z"⟩, prog_8_method_14_code, 3, (some .boolean), 6)
def mTe_isStep : mM := (⟨"PaperBread$Texts", "isStep", "(I)Z"⟩, prog_8_method_12_code, 1, (some .boolean), 6)
def mTe_begins : mM := (⟨"PaperBread$Texts", "begins", "(I)Z"⟩, prog_8_method_13_code, 1, (some .boolean), 6)
def mTe_readStep : mM := (⟨"PaperBread$Texts", "readStep", "(ILPaperBread$Names;)V"⟩, prog_8_method_16_code, 3, none, 6)
def mTe_readTest : mM := (⟨"PaperBread$Texts", "readTest", "(LPaperBread$Names;)V"⟩, prog_8_method_17_code, 2, none, 6)
def mTo_takeCompares : mM := (⟨"PaperBread$Tokens", "takeCompares", "()I"⟩, prog_9_method_16_code, 2, (some .int), 7)
def mTe_addStep : mM := (⟨"PaperBread$Texts", "addStep", "(ILPaperBread$Days;)V"⟩, prog_8_method_15_code, 3, none, 6)
def mDa_begin : mM := (⟨"PaperBread$Days", "begin", "()V"⟩, prog_2_method_6_code, 1, none, 0)
def mPb_fault : mM := (⟨"PaperBread", "fault", "(I)I"⟩, prog_1_method_12_code, 2, (some .int), 10)
def mPb_many : mM := (⟨"PaperBread", "many", "(I)I"⟩, prog_1_method_13_code, 2, (some .int), 10)
def mPb_person : mM := (⟨"PaperBread", "person", "(II)I"⟩, prog_1_method_14_code, 3, (some .int), 10)
def mPb_loaf : mM := (⟨"PaperBread", "loaf", "(II)I"⟩, prog_1_method_15_code, 3, (some .int), 10)
def mTw_hasLoaf : mM := (⟨"PaperBread$Town", "hasLoaf", "(I)Z"⟩, prog_10_method_8_code, 2, (some .boolean), 8)
def mTw_isPaper : mM := (⟨"PaperBread$Town", "isPaper", "(I)Z"⟩, prog_10_method_9_code, 2, (some .boolean), 8)
def mTw_isBaked : mM := (⟨"PaperBread$Town", "isBaked", "(I)Z"⟩, prog_10_method_10_code, 2, (some .boolean), 8)
def mPb_promise : mM := (⟨"PaperBread", "promise", "(II)I"⟩, prog_1_method_16_code, 4, (some .int), 10)
def mPr_has : mM := (⟨"PaperBread$Promises", "has", "(I)Z"⟩, prog_6_method_3_code, 2, (some .boolean), 4)
def mPb_holds : mM := (⟨"PaperBread", "holds", "(II)I"⟩, prog_1_method_17_code, 3, (some .int), 10)
def mSh_weigh : mM := (⟨"PaperBread$Share", "weigh", "(LPaperBread$Town;I)V"⟩, prog_7_method_2_code, 5, none, 5)
def mSh_lineUp : mM := (⟨"PaperBread$Share", "lineUp", "()V"⟩, prog_7_method_3_code, 3, none, 5)
def mPb_deep : mM := (⟨"PaperBread", "deep", "(I)I"⟩, prog_1_method_18_code, 2, (some .int), 10)
def mPr_deepest : mM := (⟨"PaperBread$Promises", "deepest", "(II)I"⟩, prog_6_method_6_code, 7, (some .int), 4)
def mPb_first : mM := (⟨"PaperBread", "first", "(III)I"⟩, prog_1_method_19_code, 4, (some .int), 10)
def mPb_line : mM := (⟨"PaperBread", "line", "(II)I"⟩, prog_1_method_20_code, 3, (some .int), 10)
def mPb_whose : mM := (⟨"PaperBread", "whose", "(IIZ)I"⟩, prog_1_method_21_code, 5, (some .int), 10)
def mTw_comesOf : mM := (⟨"PaperBread$Town", "comesOf", "(IZ)I"⟩, prog_10_method_14_code, 3, (some .int), 8)
def mSh_deal : mM := (⟨"PaperBread$Share", "deal", "(I)V"⟩, prog_7_method_4_code, 5, none, 5)
def mSh_ownerOf : mM := (⟨"PaperBread$Share", "ownerOf", "(I)I"⟩, prog_7_method_5_code, 4, (some .int), 5)
def mPb_depth : mM := (⟨"PaperBread", "depth", "(I)I"⟩, prog_1_method_22_code, 4, (some .int), 10)
def mTw_bakerOf : mM := (⟨"PaperBread$Town", "bakerOf", "(I)I"⟩, prog_10_method_12_code, 2, (some .int), 8)
def mPb_between : mM := (⟨"PaperBread", "between", "(II)I"⟩, prog_1_method_23_code, 3, (some .int), 10)
def mPr_handed : mM := (⟨"PaperBread$Promises", "handed", "(II)I"⟩, prog_6_method_7_code, 5, (some .int), 4)
def mPr_stands : mM := (⟨"PaperBread$Promises", "stands", "(I)Z"⟩, prog_6_method_5_code, 2, (some .boolean), 4)
def mPb_gets : mM := (⟨"PaperBread", "gets", "(IIZ)I"⟩, prog_1_method_24_code, 4, (some .int), 10)
def mPb_wouldGet : mM := (⟨"PaperBread", "wouldGet", "(IIZ)I"⟩, prog_1_method_55_code, 4, (some .int), 10)
def mPb_shame : mM := (⟨"PaperBread", "shame", "(IZ)I"⟩, prog_1_method_25_code, 5, (some .int), 10)
def mSh_settle : mM := (⟨"PaperBread$Share", "settle", "(LPaperBread$Town;IZ)V"⟩, prog_7_method_6_code, 7, none, 5)
def mPb_mean : mM := (⟨"PaperBread", "mean", "(III)Z"⟩, prog_1_method_26_code, 7, (some .boolean), 10)
def mTw_rainOn : mM := (⟨"PaperBread$Town", "rainOn", "(I)I"⟩, prog_10_method_13_code, 3, (some .int), 8)
def mPb_tell : mM := (⟨"PaperBread", "tell", "(JJ)V"⟩, prog_1_method_54_code, 12, none, 10)
def mPb_net : mM := (⟨"PaperBread", "net", "(I)I"⟩, prog_1_method_27_code, 2, (some .int), 10)
def mPr_surplus : mM := (⟨"PaperBread$Promises", "surplus", "(I)I"⟩, prog_6_method_8_code, 4, (some .int), 4)
def mPb_handOvers : mM := (⟨"PaperBread", "handOvers", "()I"⟩, prog_1_method_28_code, 1, (some .int), 10)
def mNe_fewestHandOvers : mM := (⟨"PaperBread$Netting", "fewestHandOvers", "(LPaperBread$Town;)I"⟩, prog_5_method_2_code, 6, (some .int), 3)
def mPb_ring : mM := (⟨"PaperBread", "ring", "()I"⟩, prog_1_method_29_code, 2, (some .int), 10)
def mNe_findRing : mM := (⟨"PaperBread$Netting", "findRing", "(LPaperBread$Promises;)I"⟩, prog_5_method_3_code, 7, (some .int), 3)
def mNe_measure : mM := (⟨"PaperBread$Netting", "measure", "(LPaperBread$Promises;)V"⟩, prog_5_method_6_code, 6, none, 3)
def mNe_way : mM := (⟨"PaperBread$Netting", "way", "(II)I"⟩, prog_5_method_5_code, 4, (some .int), 3)
def mNe_nextOnWay : mM := (⟨"PaperBread$Netting", "nextOnWay", "(LPaperBread$Promises;III)I"⟩, prog_5_method_4_code, 6, (some .int), 3)
def mPb_ringAt : mM := (⟨"PaperBread", "ringAt", "(I)I"⟩, prog_1_method_30_code, 2, (some .int), 10)
def mPb_owing : mM := (⟨"PaperBread", "owing", "(I)I"⟩, prog_1_method_31_code, 4, (some .int), 10)
def mPb_saved : mM := (⟨"PaperBread", "saved", "(III)I"⟩, prog_1_method_32_code, 5, (some .int), 10)
def mSh_gather : mM := (⟨"PaperBread$Share", "gather", "(LPaperBread$Town;I)V"⟩, prog_7_method_8_code, 4, none, 5)
def mSh_cheapestSet : mM := (⟨"PaperBread$Share", "cheapestSet", "(LPaperBread$Town;I)I"⟩, prog_7_method_9_code, 8, (some .int), 5)
def mSh_gathered : mM := (⟨"PaperBread$Share", "gathered", "(I)I"⟩, prog_7_method_10_code, 4, (some .int), 5)
def mTw_flourOf : mM := (⟨"PaperBread$Town", "flourOf", "(I)I"⟩, prog_10_method_15_code, 4, (some .int), 8)
def mPb_faces : mM := (⟨"PaperBread", "faces", "()I"⟩, prog_1_method_33_code, 4, (some .int), 10)
def mSh_othersHold : mM := (⟨"PaperBread$Share", "othersHold", "(I)Z"⟩, prog_7_method_7_code, 3, (some .boolean), 5)
def mPb_keeps : mM := (⟨"PaperBread", "keeps", "(III)I"⟩, prog_1_method_34_code, 5, (some .int), 10)
def mTr_allWithin : mM := (⟨"PaperBread$Trays", "allWithin", "(IIJ)Z"⟩, prog_11_method_13_code, 6, (some .boolean), 9)
def mPb_firstBrokenDay : mM := (⟨"PaperBread", "firstBrokenDay", "(III)I"⟩, prog_1_method_56_code, 8, (some .int), 10)
def mPb_burst : mM := (⟨"PaperBread", "burst", "()I"⟩, prog_1_method_35_code, 4, (some .int), 10)
def mPb_cuts : mM := (⟨"PaperBread", "cuts", "(IIIII)I"⟩, prog_1_method_36_code, 7, (some .int), 10)
def mPb_cuttingTurn : mM := (⟨"PaperBread", "cuttingTurn", "(IIII)I"⟩, prog_1_method_57_code, 8, (some .int), 10)
def mPb_auction : mM := (⟨"PaperBread", "auction", "(III)I"⟩, prog_1_method_37_code, 6, (some .int), 10)
def mTr_placeOfMost : mM := (⟨"PaperBread$Trays", "placeOfMost", "(III)I"⟩, prog_11_method_14_code, 6, (some .int), 9)
def mPb_make : mM := (⟨"PaperBread", "make", "(IIIII)I"⟩, prog_1_method_38_code, 6, (some .int), 10)
def mPb_letGo : mM := (⟨"PaperBread", "letGo", "(I)Z"⟩, prog_1_method_39_code, 2, (some .boolean), 10)
def mTw_release : mM := (⟨"PaperBread$Town", "release", "(I)Z"⟩, prog_10_method_17_code, 2, (some .boolean), 8)
def mPb_bake : mM := (⟨"PaperBread", "bake", "(I)I"⟩, prog_1_method_40_code, 2, (some .int), 10)
def mTw_canBake : mM := (⟨"PaperBread$Town", "canBake", "(I)Z"⟩, prog_10_method_18_code, 2, (some .boolean), 8)
def mTw_rainsOn : mM := (⟨"PaperBread$Town", "rainsOn", "(I)Z"⟩, prog_10_method_19_code, 2, (some .boolean), 8)
def mTw_isWet : mM := (⟨"PaperBread$Town", "isWet", "(I)Z"⟩, prog_10_method_11_code, 2, (some .boolean), 8)
def mTw_bringOut : mM := (⟨"PaperBread$Town", "bringOut", "(ILPaperBread$Share;)I"⟩, prog_10_method_20_code, 4, (some .int), 8)
def mPb_pass : mM := (⟨"PaperBread", "pass", "(I)I"⟩, prog_1_method_41_code, 2, (some .int), 10)
def mPb_eat : mM := (⟨"PaperBread", "eat", "(II)I"⟩, prog_1_method_42_code, 3, (some .int), 10)
def mTw_feast : mM := (⟨"PaperBread$Town", "feast", "(II)I"⟩, prog_10_method_21_code, 4, (some .int), 8)
def mPb_pay : mM := (⟨"PaperBread", "pay", "(III)Z"⟩, prog_1_method_43_code, 4, (some .boolean), 10)
def mTw_handMoney : mM := (⟨"PaperBread$Town", "handMoney", "(III)Z"⟩, prog_10_method_22_code, 4, (some .boolean), 8)
def mPb_live : mM := (⟨"PaperBread", "live", "(I)I"⟩, prog_1_method_44_code, 2, (some .int), 10)
def mLi_run : mM := (⟨"PaperBread$Living", "run", "(LPaperBread$Town;I)V"⟩, prog_3_method_2_code, 5, none, 1)
def mLi_goOn : mM := (⟨"PaperBread$Living", "goOn", "(LPaperBread$Town;I)I"⟩, prog_3_method_3_code, 5, (some .int), 1)
def mDa_cell : mM := (⟨"PaperBread$Days", "cell", "(II)I"⟩, prog_2_method_4_code, 3, (some .int), 0)
def mLi_behindEnd : mM := (⟨"PaperBread$Living", "behindEnd", "(LPaperBread$Days;I)I"⟩, prog_3_method_4_code, 4, (some .int), 1)
def mLi_isTrue : mM := (⟨"PaperBread$Living", "isTrue", "(LPaperBread$Town;I)Z"⟩, prog_3_method_5_code, 6, (some .boolean), 1)
def mLi_compares : mM := (⟨"PaperBread$Living", "compares", "(III)Z"⟩, prog_3_method_6_code, 3, (some .boolean), 1)
def mLi_isDone : mM := (⟨"PaperBread$Living", "isDone", "(LPaperBread$Town;II)Z"⟩, prog_3_method_7_code, 9, (some .boolean), 1)
def mLi_hasBaked : mM := (⟨"PaperBread$Living", "hasBaked", "(LPaperBread$Town;I)Z"⟩, prog_3_method_8_code, 4, (some .boolean), 1)
def mLi_hasWaited : mM := (⟨"PaperBread$Living", "hasWaited", "(LPaperBread$Town;I)Z"⟩, prog_3_method_9_code, 5, (some .boolean), 1)
def mLi_nextDraw : mM := (⟨"PaperBread$Living", "nextDraw", "()I"⟩, prog_3_method_10_code, 1, (some .int), 1)
def mPb_lived : mM := (⟨"PaperBread", "lived", "(I)I"⟩, prog_1_method_45_code, 2, (some .int), 10)
def mPb_odds : mM := (⟨"PaperBread", "odds", "(IIII)Z"⟩, prog_1_method_46_code, 7, (some .boolean), 10)
def mPb_mark : mM := (⟨"PaperBread", "mark", "()I"⟩, prog_1_method_47_code, 1, (some .int), 10)
def mPb_back : mM := (⟨"PaperBread", "back", "()I"⟩, prog_1_method_48_code, 1, (some .int), 10)
def mMo_status : mM := (⟨"PaperBreadModel", "status", "()I"⟩, prog_13_method_3_code, 1, (some .int), 11)
def mMo_top : mM := (⟨"PaperBreadModel", "top", "()J"⟩, prog_13_method_4_code, 1, (some .long), 11)
def mMo_bottom : mM := (⟨"PaperBreadModel", "bottom", "()J"⟩, prog_13_method_5_code, 1, (some .long), 11)
def mMo_tray : mM := (⟨"PaperBreadModel", "tray", "(III)Z"⟩, prog_13_method_11_code, 5, (some .boolean), 11)
def mMo_no : mM := (⟨"PaperBreadModel", "no", "(I)Z"⟩, prog_13_method_7_code, 2, (some .boolean), 11)
def mMo_write : mM := (⟨"PaperBreadModel", "write", "(IIJ)Z"⟩, prog_13_method_14_code, 5, (some .boolean), 11)
def mMo_placed : mM := (⟨"PaperBreadModel", "placed", "(II)I"⟩, prog_13_method_13_code, 4, (some .int), 11)
def mMo_trayed : mM := (⟨"PaperBreadModel", "trayed", "(I)I"⟩, prog_13_method_12_code, 2, (some .int), 11)
def mMo_cut : mM := (⟨"PaperBreadModel", "cut", "(IJ)J"⟩, prog_13_method_10_code, 3, (some .long), 11)
def mMo_read : mM := (⟨"PaperBreadModel", "read", "(II)J"⟩, prog_13_method_15_code, 3, (some .long), 11)
def mMo_pour : mM := (⟨"PaperBreadModel", "pour", "(IIIII)Z"⟩, prog_13_method_16_code, 9, (some .boolean), 11)
def mMo_feed : mM := (⟨"PaperBreadModel", "feed", "(IIIII)I"⟩, prog_13_method_51_code, 6, (some .int), 11)
def mMo_lay : mM := (⟨"PaperBreadModel", "lay", "(I)V"⟩, prog_13_method_52_code, 3, none, 11)
def mMo_fault : mM := (⟨"PaperBreadModel", "fault", "(I)I"⟩, prog_13_method_55_code, 2, (some .int), 11)
def mMo_town : mM := (⟨"PaperBreadModel", "town", "(I)I"⟩, prog_13_method_68_code, 3, (some .int), 11)
def mMo_opens : mM := (⟨"PaperBreadModel", "opens", "(II)Z"⟩, prog_13_method_53_code, 3, (some .boolean), 11)
def mMo_next : mM := (⟨"PaperBreadModel", "next", "()V"⟩, prog_13_method_23_code, 2, none, 11)
def mMo_look2 : mM := (⟨"PaperBreadModel", "look2", "(I)I"⟩, prog_13_method_19_code, 2, (some .int), 11)
def mMo_isLetter : mM := (⟨"PaperBreadModel", "isLetter", "(I)Z"⟩, prog_13_method_20_code, 1, (some .boolean), 11)
def mMo_isDigit : mM := (⟨"PaperBreadModel", "isDigit", "(I)Z"⟩, prog_13_method_21_code, 1, (some .boolean), 11)
def mMo_isSignByte : mM := (⟨"PaperBreadModel", "isSignByte", "(I)Z"⟩, prog_13_method_22_code, 2, (some .boolean), 11)
def mMo_isPerson : mM := (⟨"PaperBreadModel", "isPerson", "()Z"⟩, prog_13_method_27_code, 1, (some .boolean), 11)
def mMo_spelled : mM := (⟨"PaperBreadModel", "spelled", "(IIIIII)J"⟩, prog_13_method_25_code, 8, (some .long), 11)
def mMo_isWord : mM := (⟨"PaperBreadModel", "isWord", "(J)Z"⟩, prog_13_method_26_code, 3, (some .boolean), 11)
def mMo_readPerson : mM := (⟨"PaperBreadModel", "readPerson", "()V"⟩, prog_13_method_63_code, 2, none, 11)
def mMo_fail : mM := (⟨"PaperBreadModel", "fail", "(II)V"⟩, prog_13_method_47_code, 3, none, 11)
def mMo_readNew : mM := (⟨"PaperBreadModel", "readNew", "(I)V"⟩, prog_13_method_60_code, 2, none, 11)
def mMo_isName : mM := (⟨"PaperBreadModel", "isName", "()Z"⟩, prog_13_method_46_code, 1, (some .boolean), 11)
def mMo_isKept : mM := (⟨"PaperBreadModel", "isKept", "()Z"⟩, prog_13_method_45_code, 1, (some .boolean), 11)
def mMo_isPurse : mM := (⟨"PaperBreadModel", "isPurse", "()Z"⟩, prog_13_method_28_code, 1, (some .boolean), 11)
def mMo_isOven : mM := (⟨"PaperBreadModel", "isOven", "()Z"⟩, prog_13_method_29_code, 1, (some .boolean), 11)
def mMo_isRain : mM := (⟨"PaperBreadModel", "isRain", "()Z"⟩, prog_13_method_30_code, 1, (some .boolean), 11)
def mMo_isLoaf : mM := (⟨"PaperBreadModel", "isLoaf", "()Z"⟩, prog_13_method_31_code, 1, (some .boolean), 11)
def mMo_isBy : mM := (⟨"PaperBreadModel", "isBy", "()Z"⟩, prog_13_method_32_code, 1, (some .boolean), 11)
def mMo_isInWord : mM := (⟨"PaperBreadModel", "isInWord", "()Z"⟩, prog_13_method_33_code, 1, (some .boolean), 11)
def mMo_isOn : mM := (⟨"PaperBreadModel", "isOn", "()Z"⟩, prog_13_method_34_code, 1, (some .boolean), 11)
def mMo_isSlices : mM := (⟨"PaperBreadModel", "isSlices", "()Z"⟩, prog_13_method_35_code, 1, (some .boolean), 11)
def mMo_isFlour : mM := (⟨"PaperBreadModel", "isFlour", "()Z"⟩, prog_13_method_36_code, 1, (some .boolean), 11)
def mMo_isOf : mM := (⟨"PaperBreadModel", "isOf", "()Z"⟩, prog_13_method_38_code, 1, (some .boolean), 11)
def mMo_isFrom : mM := (⟨"PaperBreadModel", "isFrom", "()Z"⟩, prog_13_method_39_code, 1, (some .boolean), 11)
def mMo_isTo : mM := (⟨"PaperBreadModel", "isTo", "()Z"⟩, prog_13_method_40_code, 1, (some .boolean), 11)
def mMo_isFor : mM := (⟨"PaperBreadModel", "isFor", "()Z"⟩, prog_13_method_41_code, 1, (some .boolean), 11)
def mMo_stepWord : mM := (⟨"PaperBreadModel", "stepWord", "()I"⟩, prog_13_method_42_code, 1, (some .int), 11)
def mMo_isPromise : mM := (⟨"PaperBreadModel", "isPromise", "()Z"⟩, prog_13_method_37_code, 1, (some .boolean), 11)
def mMo_testWord : mM := (⟨"PaperBreadModel", "testWord", "()I"⟩, prog_13_method_43_code, 1, (some .int), 11)
def mMo_isEnd : mM := (⟨"PaperBreadModel", "isEnd", "()Z"⟩, prog_13_method_44_code, 1, (some .boolean), 11)
def mMo_wrong : mM := (⟨"PaperBreadModel", "wrong", "()V"⟩, prog_13_method_48_code, 1, none, 11)
def mMo_personNamed : mM := (⟨"PaperBreadModel", "personNamed", "(I)I"⟩, prog_13_method_57_code, 2, (some .int), 11)
def mMo_named : mM := (⟨"PaperBreadModel", "named", "(III)I"⟩, prog_13_method_56_code, 5, (some .int), 11)
def mMo_ovenNamed : mM := (⟨"PaperBreadModel", "ovenNamed", "(I)I"⟩, prog_13_method_58_code, 2, (some .int), 11)
def mMo_loafNamed : mM := (⟨"PaperBreadModel", "loafNamed", "(I)I"⟩, prog_13_method_59_code, 2, (some .int), 11)
def mMo_count : mM := (⟨"PaperBreadModel", "count", "(II)I"⟩, prog_13_method_50_code, 4, (some .int), 11)
def mMo_isIn : mM := (⟨"PaperBreadModel", "isIn", "(JJJ)Z"⟩, prog_13_method_8_code, 6, (some .boolean), 11)
def mMo_readOven : mM := (⟨"PaperBreadModel", "readOven", "()V"⟩, prog_13_method_64_code, 2, none, 11)
def mMo_readLoaf : mM := (⟨"PaperBreadModel", "readLoaf", "()V"⟩, prog_13_method_65_code, 2, none, 11)
def mMo_must : mM := (⟨"PaperBreadModel", "must", "(Z)V"⟩, prog_13_method_49_code, 2, none, 11)
def mMo_readTold : mM := (⟨"PaperBreadModel", "readTold", "(II)I"⟩, prog_13_method_62_code, 4, (some .int), 11)
def mMo_told : mM := (⟨"PaperBreadModel", "told", "(II)I"⟩, prog_13_method_61_code, 4, (some .int), 11)
def mMo_readPromise : mM := (⟨"PaperBreadModel", "readPromise", "()V"⟩, prog_13_method_67_code, 3, none, 11)
def mMo_readPart : mM := (⟨"PaperBreadModel", "readPart", "(II)V"⟩, prog_13_method_66_code, 3, none, 11)
def mMo_isSign : mM := (⟨"PaperBreadModel", "isSign", "(I)Z"⟩, prog_13_method_24_code, 2, (some .boolean), 11)
def mMo_isWell : mM := (⟨"PaperBreadModel", "isWell", "()Z"⟩, prog_13_method_54_code, 1, (some .boolean), 11)
def mMo_copy : mM := (⟨"PaperBreadModel", "copy", "(II)V"⟩, prog_13_method_143_code, 4, none, 11)
def mMo_days : mM := (⟨"PaperBreadModel", "days", "(I)I"⟩, prog_13_method_72_code, 3, (some .int), 11)
def mMo_readStep : mM := (⟨"PaperBreadModel", "readStep", "(I)V"⟩, prog_13_method_71_code, 5, none, 11)
def mMo_readRest : mM := (⟨"PaperBreadModel", "readRest", "(I)V"⟩, prog_13_method_70_code, 3, none, 11)
def mMo_readTest : mM := (⟨"PaperBreadModel", "readTest", "(I)V"⟩, prog_13_method_69_code, 3, none, 11)
def mMo_many : mM := (⟨"PaperBreadModel", "many", "(I)I"⟩, prog_13_method_83_code, 2, (some .int), 11)
def mMo_bakedSet : mM := (⟨"PaperBreadModel", "bakedSet", "()I"⟩, prog_13_method_82_code, 3, (some .int), 11)
def mMo_isBaked : mM := (⟨"PaperBreadModel", "isBaked", "(I)Z"⟩, prog_13_method_76_code, 2, (some .boolean), 11)
def mMo_refuse : mM := (⟨"PaperBreadModel", "refuse", "(I)I"⟩, prog_13_method_6_code, 2, (some .int), 11)
def mMo_person : mM := (⟨"PaperBreadModel", "person", "(II)I"⟩, prog_13_method_84_code, 3, (some .int), 11)
def mMo_isPersonAt : mM := (⟨"PaperBreadModel", "isPersonAt", "(I)Z"⟩, prog_13_method_73_code, 2, (some .boolean), 11)
def mMo_loaf : mM := (⟨"PaperBreadModel", "loaf", "(II)I"⟩, prog_13_method_85_code, 3, (some .int), 11)
def mMo_isLoafAt : mM := (⟨"PaperBreadModel", "isLoafAt", "(I)Z"⟩, prog_13_method_74_code, 2, (some .boolean), 11)
def mMo_isPaper : mM := (⟨"PaperBreadModel", "isPaper", "(I)Z"⟩, prog_13_method_77_code, 2, (some .boolean), 11)
def mMo_promise : mM := (⟨"PaperBreadModel", "promise", "(II)I"⟩, prog_13_method_86_code, 3, (some .int), 11)
def mMo_isPromiseAt : mM := (⟨"PaperBreadModel", "isPromiseAt", "(I)Z"⟩, prog_13_method_75_code, 2, (some .boolean), 11)
def mMo_part : mM := (⟨"PaperBreadModel", "part", "(I)I"⟩, prog_13_method_78_code, 1, (some .int), 11)
def mMo_holds : mM := (⟨"PaperBreadModel", "holds", "(II)I"⟩, prog_13_method_88_code, 3, (some .int), 11)
def mMo_holdsOf : mM := (⟨"PaperBreadModel", "holdsOf", "(II)I"⟩, prog_13_method_87_code, 5, (some .int), 11)
def mMo_isOfLoaf : mM := (⟨"PaperBreadModel", "isOfLoaf", "(II)Z"⟩, prog_13_method_80_code, 3, (some .boolean), 11)
def mMo_isMade : mM := (⟨"PaperBreadModel", "isMade", "(I)Z"⟩, prog_13_method_79_code, 2, (some .boolean), 11)
def mMo_deep : mM := (⟨"PaperBreadModel", "deep", "(I)I"⟩, prog_13_method_90_code, 4, (some .int), 11)
def mMo_deepens : mM := (⟨"PaperBreadModel", "deepens", "()V"⟩, prog_13_method_89_code, 4, none, 11)
def mMo_depth : mM := (⟨"PaperBreadModel", "depth", "(I)I"⟩, prog_13_method_91_code, 2, (some .int), 11)
def mMo_first : mM := (⟨"PaperBreadModel", "first", "(III)I"⟩, prog_13_method_93_code, 4, (some .int), 11)
def mMo_turnOf : mM := (⟨"PaperBreadModel", "turnOf", "(II)I"⟩, prog_13_method_92_code, 4, (some .int), 11)
def mMo_line : mM := (⟨"PaperBreadModel", "line", "(II)I"⟩, prog_13_method_98_code, 3, (some .int), 11)
def mMo_lines : mM := (⟨"PaperBreadModel", "lines", "(I)V"⟩, prog_13_method_94_code, 4, none, 11)
def mMo_whose : mM := (⟨"PaperBreadModel", "whose", "(IIZ)I"⟩, prog_13_method_99_code, 6, (some .int), 11)
def mMo_deals : mM := (⟨"PaperBreadModel", "deals", "(IZ)V"⟩, prog_13_method_96_code, 5, none, 11)
def mMo_comes : mM := (⟨"PaperBreadModel", "comes", "(IZ)I"⟩, prog_13_method_95_code, 3, (some .int), 11)
def mMo_gets : mM := (⟨"PaperBreadModel", "gets", "(IIZ)I"⟩, prog_13_method_100_code, 4, (some .int), 11)
def mMo_getsOf : mM := (⟨"PaperBreadModel", "getsOf", "(IIZ)I"⟩, prog_13_method_97_code, 4, (some .int), 11)
def mMo_shame : mM := (⟨"PaperBreadModel", "shame", "(IZ)I"⟩, prog_13_method_103_code, 5, (some .int), 11)
def mMo_unmet : mM := (⟨"PaperBreadModel", "unmet", "(IZ)I"⟩, prog_13_method_101_code, 5, (some .int), 11)
def mMo_owesOf : mM := (⟨"PaperBreadModel", "owesOf", "(II)I"⟩, prog_13_method_102_code, 3, (some .int), 11)
def mMo_mean : mM := (⟨"PaperBreadModel", "mean", "(III)Z"⟩, prog_13_method_104_code, 7, (some .boolean), 11)
def mMo_fraction : mM := (⟨"PaperBreadModel", "fraction", "(JJ)Z"⟩, prog_13_method_9_code, 11, (some .boolean), 11)
def mMa_absl : mM := (⟨"java/lang/Math", "abs", "(J)J"⟩, prog_14_method_61_code, 2, (some .long), 13)
def mMo_between : mM := (⟨"PaperBreadModel", "between", "(II)I"⟩, prog_13_method_105_code, 5, (some .int), 11)
def mMo_owing : mM := (⟨"PaperBreadModel", "owing", "(I)I"⟩, prog_13_method_106_code, 4, (some .int), 11)
def mMo_net : mM := (⟨"PaperBreadModel", "net", "(I)I"⟩, prog_13_method_108_code, 2, (some .int), 11)
def mMo_netOf : mM := (⟨"PaperBreadModel", "netOf", "(I)I"⟩, prog_13_method_107_code, 4, (some .int), 11)
def mMo_handOvers : mM := (⟨"PaperBreadModel", "handOvers", "()I"⟩, prog_13_method_109_code, 7, (some .int), 11)
def mMo_has : mM := (⟨"PaperBreadModel", "has", "(II)Z"⟩, prog_13_method_81_code, 2, (some .boolean), 11)
def mMo_ring : mM := (⟨"PaperBreadModel", "ring", "()I"⟩, prog_13_method_111_code, 4, (some .int), 11)
def mMo_goesRound : mM := (⟨"PaperBreadModel", "goesRound", "(III)Z"⟩, prog_13_method_110_code, 7, (some .boolean), 11)
def mMo_ringAt : mM := (⟨"PaperBreadModel", "ringAt", "(I)I"⟩, prog_13_method_112_code, 2, (some .int), 11)
def mMo_saved : mM := (⟨"PaperBreadModel", "saved", "(III)I"⟩, prog_13_method_114_code, 11, (some .int), 11)
def mMo_isOpen : mM := (⟨"PaperBreadModel", "isOpen", "(I)Z"⟩, prog_13_method_113_code, 2, (some .boolean), 11)
def mMo_faces : mM := (⟨"PaperBreadModel", "faces", "()I"⟩, prog_13_method_115_code, 3, (some .int), 11)
def mMo_isHeld : mM := (⟨"PaperBreadModel", "isHeld", "(I)Z"⟩, prog_13_method_116_code, 3, (some .boolean), 11)
def mMo_keeps : mM := (⟨"PaperBreadModel", "keeps", "(III)I"⟩, prog_13_method_117_code, 8, (some .int), 11)
def mMo_isTray : mM := (⟨"PaperBreadModel", "isTray", "(I)Z"⟩, prog_13_method_18_code, 2, (some .boolean), 11)
def mMo_numberOf : mM := (⟨"PaperBreadModel", "numberOf", "(II)J"⟩, prog_13_method_17_code, 3, (some .long), 11)
def mMo_burst : mM := (⟨"PaperBreadModel", "burst", "()I"⟩, prog_13_method_118_code, 3, (some .int), 11)
def mMo_cuts : mM := (⟨"PaperBreadModel", "cuts", "(IIIII)I"⟩, prog_13_method_119_code, 10, (some .int), 11)
def mMo_auction : mM := (⟨"PaperBreadModel", "auction", "(III)I"⟩, prog_13_method_120_code, 8, (some .int), 11)
def mMa_maxl : mM := (⟨"java/lang/Math", "max", "(JJ)J"⟩, prog_14_method_66_code, 4, (some .long), 13)
def mMo_make : mM := (⟨"PaperBreadModel", "make", "(IIIII)I"⟩, prog_13_method_122_code, 6, (some .int), 11)
def mMo_makes : mM := (⟨"PaperBreadModel", "makes", "(IIIII)I"⟩, prog_13_method_121_code, 7, (some .int), 11)
def mMo_letGo : mM := (⟨"PaperBreadModel", "letGo", "(I)Z"⟩, prog_13_method_124_code, 2, (some .boolean), 11)
def mMo_breaks : mM := (⟨"PaperBreadModel", "breaks", "(I)Z"⟩, prog_13_method_123_code, 2, (some .boolean), 11)
def mMo_bake : mM := (⟨"PaperBreadModel", "bake", "(I)I"⟩, prog_13_method_127_code, 3, (some .int), 11)
def mMo_bakes : mM := (⟨"PaperBreadModel", "bakes", "(I)I"⟩, prog_13_method_126_code, 5, (some .int), 11)
def mMo_isWetOven : mM := (⟨"PaperBreadModel", "isWetOven", "(I)Z"⟩, prog_13_method_125_code, 2, (some .boolean), 11)
def mMo_pass : mM := (⟨"PaperBreadModel", "pass", "(I)I"⟩, prog_13_method_128_code, 2, (some .int), 11)
def mMo_eat : mM := (⟨"PaperBreadModel", "eat", "(II)I"⟩, prog_13_method_130_code, 3, (some .int), 11)
def mMo_eats : mM := (⟨"PaperBreadModel", "eats", "(II)I"⟩, prog_13_method_129_code, 4, (some .int), 11)
def mMo_pay : mM := (⟨"PaperBreadModel", "pay", "(III)Z"⟩, prog_13_method_132_code, 4, (some .boolean), 11)
def mMo_pays : mM := (⟨"PaperBreadModel", "pays", "(III)Z"⟩, prog_13_method_131_code, 4, (some .boolean), 11)
def mMo_live : mM := (⟨"PaperBreadModel", "live", "(I)I"⟩, prog_13_method_140_code, 2, (some .int), 11)
def mMo_lives : mM := (⟨"PaperBreadModel", "lives", "(I)V"⟩, prog_13_method_139_code, 2, none, 11)
def mMo_doAll : mM := (⟨"PaperBreadModel", "doAll", "(II)V"⟩, prog_13_method_138_code, 4, none, 11)
def mMo_doOne : mM := (⟨"PaperBreadModel", "doOne", "(I)V"⟩, prog_13_method_137_code, 5, none, 11)
def mMo_does : mM := (⟨"PaperBreadModel", "does", "(I)Z"⟩, prog_13_method_135_code, 4, (some .boolean), 11)
def mMo_waits : mM := (⟨"PaperBreadModel", "waits", "(I)Z"⟩, prog_13_method_134_code, 4, (some .boolean), 11)
def mMo_draw : mM := (⟨"PaperBreadModel", "draw", "()I"⟩, prog_13_method_133_code, 1, (some .int), 11)
def mMo_isSo : mM := (⟨"PaperBreadModel", "isSo", "(I)Z"⟩, prog_13_method_136_code, 4, (some .boolean), 11)
def mMo_lived : mM := (⟨"PaperBreadModel", "lived", "(I)I"⟩, prog_13_method_141_code, 2, (some .int), 11)
def mMo_odds : mM := (⟨"PaperBreadModel", "odds", "(IIII)Z"⟩, prog_13_method_142_code, 8, (some .boolean), 11)
def mMo_mark : mM := (⟨"PaperBreadModel", "mark", "()I"⟩, prog_13_method_144_code, 1, (some .int), 11)
def mMo_back : mM := (⟨"PaperBreadModel", "back", "()I"⟩, prog_13_method_145_code, 1, (some .int), 11)
def mLa_law : mM := (⟨"PaperBreadLaw", "law", "([I)Z"⟩, code, 4, (some .boolean), 12)
def mRL0 : List (Nat × mZ) := [(11, .inl (0, 0)), (15, .inl (0, 1)), (18, .inl (0, 2)), (22, .inl (0, 3)), (25, .inl (0, 4)), (28, .inl (0, 5)), (32, .inr (.inr (.inr (.inr 0)))), (40, .inr (.inl (false, mDa_add, 2)))]
def mRL1 : List (Nat × mZ) := [(12, .inl (1, 0)), (20, .inl (1, 1)), (24, .inl (1, 2)), (28, .inl (1, 3)), (31, .inl (1, 4)), (34, .inl (1, 5)), (37, .inl (1, 6)), (40, .inl (1, 7)), (43, .inl (1, 8)), (47, .inr (.inr (.inl (1000000)))), (48, .inl (8, 2)), (54, .inl (0, 3)), (57, .inr (.inl (false, mLi_goOn, 2))), (61, .inr (.inl (false, mDa_cell, 2))), (67, .inr (.inl (false, mLi_behindEnd, 2))), (71, .inr (.inl (true, mLi_isTrue, 2))), (75, .inr (.inl (false, mLi_isDone, 3))), (79, .inl (8, 16)), (82, .inr (.inl (true, mLi_compares, 3))), (86, .inr (.inl (false, mTw_hasPerson, 1))), (90, .inl (8, 4)), (93, .inr (.inl (false, mTw_isBaked, 1))), (96, .inr (.inl (false, mTw_isWet, 1))), (99, .inr (.inl (false, mTw_handOn, 5))), (103, .inr (.inl (false, mTw_release, 1))), (106, .inr (.inl (false, mLi_hasBaked, 2))), (109, .inr (.inl (false, mLi_hasWaited, 2))), (112, .inr (.inl (false, mTw_feast, 2))), (115, .inr (.inl (false, mTw_handMoney, 3))), (118, .inr (.inl (false, mTw_canBake, 1))), (121, .inr (.inl (false, mTw_rainsOn, 1))), (124, .inr (.inl (false, mSh_settle, 3))), (128, .inr (.inl (false, mTw_bringOut, 2))), (132, .inl (8, 18)), (135, .inl (8, 14)), (138, .inr (.inl (false, mLi_nextDraw, 0))), (142, .inl (8, 6)), (145, .inr (.inr (.inl (65536))))]
def mRL2 : List (Nat × mZ) := [(9, .inl (2, 0)), (15, .inr (.inl (true, mAr_filll, 2))), (21, .inr (.inr (.inr (.inr 0)))), (27, .inr (.inr (.inr (.inr 1))))]
def mRL3 : List (Nat × mZ) := [(11, .inl (3, 0)), (15, .inl (3, 1)), (18, .inl (3, 2)), (21, .inl (3, 3)), (24, .inl (8, 13)), (30, .inl (8, 1)), (34, .inr (.inl (false, mPr_surplus, 1))), (40, .inr (.inr (.inr (.inr 2)))), (46, .inr (.inl (false, mNe_measure, 1))), (50, .inl (4, 8)), (53, .inr (.inl (false, mPr_stands, 1))), (57, .inl (4, 3)), (60, .inl (4, 2)), (63, .inr (.inl (false, mNe_way, 2))), (66, .inr (.inl (false, mNe_nextOnWay, 4))), (70, .inl (3, 4)), (73, .inr (.inl (true, mAr_fill, 2)))]
def mRL4 : List (Nat × mZ) := [(9, .inl (4, 0)), (15, .inl (4, 1)), (18, .inl (4, 2)), (21, .inl (4, 3)), (24, .inl (4, 4)), (27, .inl (4, 5)), (31, .inl (4, 6)), (34, .inl (4, 7)), (37, .inl (4, 8)), (41, .inr (.inr (.inr (.inr 0)))), (47, .inr (.inl (false, mPr_has, 1))), (51, .inr (.inl (true, mAr_fill, 2))), (57, .inr (.inr (.inr (.inr 2)))), (63, .inr (.inl (false, mPr_stands, 1)))]
def mRL5 : List (Nat × mZ) := [(9, .inl (5, 0)), (15, .inl (5, 1)), (18, .inl (5, 2)), (21, .inl (5, 3)), (24, .inl (5, 4)), (27, .inl (5, 5)), (30, .inr (.inl (true, mAr_fill, 2))), (36, .inl (5, 6)), (40, .inr (.inl (false, mTw_hasLoaf, 1))), (46, .inl (8, 7)), (49, .inl (8, 10)), (52, .inl (8, 1)), (56, .inl (4, 8)), (61, .inl (4, 5)), (65, .inl (4, 1)), (68, .inl (4, 2)), (71, .inl (4, 0)), (72, .inl (4, 3)), (75, .inr (.inr (.inr (.inr 3)))), (81, .inr (.inl (false, mSh_lineUp, 0))), (84, .inr (.inl (false, mSh_weigh, 2))), (88, .inr (.inl (false, mTw_comesOf, 2))), (92, .inr (.inl (false, mSh_deal, 1))), (96, .inr (.inl (false, mTw_bakerOf, 1))), (100, .inr (.inr (.inr (.inr 2)))), (103, .inr (.inl (false, mTw_hasPerson, 1))), (106, .inl (8, 15)), (109, .inr (.inl (false, mTw_isPaper, 1))), (112, .inr (.inl (false, mTw_isBaked, 1))), (115, .inr (.inl (false, mSh_gathered, 1))), (118, .inr (.inl (false, mTw_flourOf, 1)))]
def mRL6 : List (Nat × mZ) := [(12, .inl (6, 0)), (20, .inl (6, 1)), (24, .inr (.inl (false, mTw_clear, 0))), (29, .inr (.inl (false, mTo_open, 1))), (33, .inr (.inl (false, mTo_goesOn, 0))), (37, .inr (.inl (false, mTo_wordHere, 0))), (41, .inr (.inl (false, mTe_readPerson, 1))), (45, .inr (.inl (false, mTe_readOven, 1))), (48, .inr (.inl (false, mTe_readLoaf, 1))), (51, .inr (.inl (false, mTe_readTownPromise, 1))), (54, .inr (.inl (false, mTo_misplaced, 0))), (57, .inl (7, 9)), (61, .inr (.inl (false, mTo_blame, 1))), (64, .inr (.inl (false, mTo_takeWord, 1))), (67, .inr (.inl (false, mTo_takeSign, 1))), (70, .inl (8, 13)), (73, .inr (.inl (false, mTe_beginPart, 2))), (77, .inl (8, 0)), (81, .inr (.inl (false, mTo_takeNewName, 1))), (85, .inr (.inl (false, mTo_skips, 1))), (89, .inr (.inl (false, mTo_takeNumber, 2))), (93, .inr (.inl (false, mTe_endsPart, 0))), (96, .inr (.inl (false, mTw_addPerson, 2))), (100, .inl (8, 14)), (103, .inr (.inl (false, mTw_addOven, 2))), (106, .inl (8, 15)), (111, .inr (.inl (false, mTo_takeName, 3))), (115, .inr (.inl (false, mTw_addLoaf, 6))), (119, .inl (8, 1)), (123, .inl (4, 8)), (128, .inr (.inl (false, mTe_readPromise, 1))), (132, .inr (.inl (false, mTw_handOn, 5))), (136, .inr (.inl (false, mDa_clear, 0))), (137, .inr (.inl (true, mAr_fill, 2))), (143, .inr (.inl (false, mTe_readEnd, 1))), (147, .inr (.inl (false, mTe_mayStepHere, 2))), (151, .inr (.inl (false, mTe_readStep, 2))), (155, .inr (.inl (false, mTe_addStep, 2))), (159, .inl (0, 2)), (162, .inl (0, 5)), (166, .inr (.inl (false, mDa_close, 1))), (170, .inr (.inl (true, mTe_isStep, 1))), (173, .inl (0, 4)), (176, .inr (.inl (true, mTe_begins, 1))), (179, .inr (.inl (false, mDa_add, 2))), (183, .inr (.inl (false, mDa_begin, 0))), (186, .inr (.inl (false, mTe_readTest, 1))), (189, .inr (.inl (false, mTo_takeCompares, 0)))]
def mRL7 : List (Nat × mZ) := [(9, .inl (7, 0)), (15, .inl (7, 1)), (31, .inr (.inr (.inr (.inl (32))))), (33, .inl (7, 2)), (37, .inr (.inl (false, mTo_hasRoomFor, 1))), (41, .inr (.inr (.inr (.inr 3)))), (47, .inr (.inr (.inr (.inr 2)))), (50, .inl (7, 3)), (52, .inl (7, 6)), (55, .inl (7, 9)), (58, .inl (7, 10)), (61, .inr (.inl (false, mTo_advance, 0))), (64, .inl (7, 5)), (67, .inl (7, 8)), (71, .inl (7, 4)), (74, .inr (.inl (false, mTo_cutWord, 0))), (77, .inr (.inl (false, mTo_cutNumber, 0))), (80, .inl (7, 7)), (83, .inr (.inl (false, mTo_blame, 1))), (87, .inr (.inl (false, mTo_isWord, 1))), (90, .inr (.inl (false, mTo_misplaced, 0))), (93, .inr (.inl (false, mTo_wordHere, 0))), (96, .inr (.inl (false, mTo_seesName, 0))), (100, .inr (.inl (false, mNa_isTaken, 1))), (106, .inr (.inl (false, mNa_numberOf, 2)))]
def mRL8 : List (Nat × mZ) := [(12, .inl (8, 0)), (21, .inl (8, 1)), (28, .inl (8, 2)), (32, .inl (8, 3)), (36, .inl (8, 4)), (39, .inl (8, 5)), (42, .inl (8, 6)), (45, .inl (8, 7)), (48, .inl (8, 8)), (51, .inl (8, 9)), (54, .inl (8, 10)), (57, .inl (8, 11)), (60, .inl (8, 12)), (63, .inr (.inl (false, mNa_clear, 0))), (66, .inl (4, 8)), (70, .inr (.inl (false, mDa_clear, 0))), (71, .inl (8, 13)), (74, .inl (8, 14)), (77, .inl (8, 15)), (80, .inl (8, 16)), (83, .inl (8, 17)), (86, .inl (8, 18)), (89, .inr (.inl (false, mNa_copyOf, 1))), (93, .inr (.inl (false, mPr_copyOf, 1))), (96, .inr (.inl (false, mDa_copyOf, 1))), (99, .inr (.inr (.inr (.inr 0)))), (105, .inr (.inl (false, mNa_give, 3))), (109, .inr (.inl (false, mTw_hasPerson, 1))), (113, .inr (.inl (false, mTw_hasLoaf, 1))), (116, .inr (.inl (false, mPr_hasRoom, 0))), (120, .inl (4, 0)), (121, .inl (4, 1)), (124, .inl (4, 2)), (127, .inl (4, 3)), (130, .inl (4, 4)), (133, .inl (4, 5)), (137, .inr (.inl (false, mPr_stands, 1))), (140, .inr (.inl (false, mTw_isBaked, 1))), (143, .inr (.inl (false, mTw_isPaper, 1))), (146, .inr (.inl (false, mTw_isWet, 1))), (149, .inl (5, 3)), (154, .inl (5, 4)), (157, .inr (.inl (false, mTw_rainsOn, 1))), (160, .inr (.inl (false, mTw_comesOf, 2))), (164, .inr (.inr (.inr (.inr 3))))]
def mRL9 : List (Nat × mZ) := [(11, .inl (9, 0)), (15, .inl (9, 1)), (19, .inl (9, 2)), (22, .inr (.inl (true, mAr_fill, 2))), (28, .inr (.inl (false, mTr_exists, 1))), (32, .inr (.inl (false, mTr_isMissing, 1))), (35, .inr (.inl (false, mTr_lengthOf, 1))), (39, .inr (.inl (false, mTr_hasRow, 3))), (43, .inr (.inl (true, mTr_cutTo, 2))), (47, .inr (.inr (.inr (.inr 0)))), (53, .inr (.inl (false, mTr_at, 2)))]
def mRL10 : List (Nat × mZ) := [(10, .inl (10, 0)), (19, .inl (10, 1)), (26, .inl (10, 2)), (30, .inl (10, 3)), (33, .inl (10, 4)), (40, .inl (10, 5)), (47, .inl (10, 6)), (54, .inl (10, 7)), (58, .inl (10, 8)), (61, .inl (10, 12)), (65, .inl (10, 13)), (69, .inl (10, 14)), (72, .inl (10, 10)), (75, .inl (10, 11)), (78, .inr (.inl (false, mTr_exists, 1))), (82, .inr (.inl (false, mTr_isSort, 1))), (85, .inr (.inl (false, mPb_deny, 1))), (88, .inr (.inl (false, mTr_lay, 3))), (92, .inr (.inl (false, mPb_grant, 0))), (96, .inr (.inl (false, mTr_whyNot, 2))), (100, .inr (.inl (false, mTr_put, 3))), (104, .inr (.inl (false, mPb_refuse, 1))), (108, .inr (.inl (false, mTr_at, 2))), (112, .inr (.inl (false, mTr_isMissing, 1))), (115, .inr (.inl (false, mTr_alike, 2))), (119, .inr (.inl (false, mTr_hasRow, 3))), (123, .inr (.inl (false, mTr_move, 5))), (127, .inl (6, 0)), (131, .inr (.inl (false, mTo_hasRoomFor, 1))), (136, .inr (.inl (false, mTo_append, 1))), (140, .inl (7, 2)), (143, .inr (.inl (false, mTe_readTown, 2))), (147, .inr (.inl (false, mPb_keepFault, 0))), (150, .inr (.inl (true, mPb_carry, 2))), (154, .inl (8, 15)), (157, .inr (.inl (false, mPb_answer, 1))), (160, .inl (8, 0)), (164, .inl (8, 2)), (168, .inr (.inl (false, mTe_readDays, 3))), (172, .inr (.inl (false, mDa_copyOf, 1))), (178, .inl (0, 4)), (181, .inl (8, 13)), (184, .inl (8, 14)), (187, .inl (8, 1)), (191, .inl (4, 8)), (196, .inl (8, 16)), (199, .inl (8, 17)), (202, .inl (8, 18)), (205, .inr (.inl (false, mTw_hasPerson, 1))), (208, .inl (8, 3)), (212, .inl (8, 4)), (215, .inl (8, 5)), (218, .inr (.inl (false, mTw_hasLoaf, 1))), (221, .inl (8, 7)), (224, .inr (.inl (false, mTw_isPaper, 1))), (227, .inl (8, 8)), (230, .inl (8, 9)), (233, .inl (8, 10)), (236, .inl (8, 11)), (239, .inr (.inl (false, mTw_isBaked, 1))), (242, .inl (8, 12)), (245, .inr (.inl (false, mPr_has, 1))), (248, .inl (4, 0)), (249, .inl (4, 1)), (252, .inl (4, 2)), (255, .inl (4, 3)), (258, .inl (4, 4)), (261, .inl (4, 5)), (265, .inr (.inl (false, mSh_weigh, 2))), (269, .inl (5, 0)), (272, .inr (.inl (false, mPr_deepest, 2))), (275, .inl (5, 1)), (278, .inl (5, 6)), (281, .inl (5, 2)), (284, .inr (.inl (false, mTw_comesOf, 2))), (288, .inr (.inl (false, mSh_deal, 1))), (291, .inr (.inl (false, mSh_ownerOf, 1))), (294, .inr (.inl (false, mTw_bakerOf, 1))), (297, .inl (4, 6)), (300, .inr (.inl (false, mPr_handed, 2))), (303, .inr (.inl (false, mPb_wouldGet, 3))), (307, .inr (.inl (false, mSh_settle, 3))), (311, .inl (5, 4)), (314, .inr (.inl (false, mTw_rainOn, 1))), (317, .inr (.inr (.inr (.inl (16))))), (319, .inr (.inl (false, mPb_tell, 2))), (323, .inr (.inl (false, mPr_surplus, 1))), (326, .inr (.inl (false, mNe_fewestHandOvers, 1))), (330, .inr (.inl (false, mNe_findRing, 1))), (334, .inl (3, 4)), (337, .inl (3, 3)), (340, .inr (.inl (false, mSh_gather, 2))), (343, .inr (.inl (false, mSh_cheapestSet, 2))), (347, .inr (.inl (false, mTw_flourOf, 1))), (350, .inr (.inl (false, mSh_othersHold, 1))), (353, .inr (.inl (false, mTr_lengthOf, 1))), (356, .inr (.inr (.inr (.inl (999))))), (358, .inr (.inl (false, mTr_allWithin, 3))), (362, .inr (.inl (false, mPb_firstBrokenDay, 3))), (366, .inr (.inl (true, mPb_cuttingTurn, 4))), (370, .inr (.inr (.inr (.inl (9999))))), (372, .inr (.inl (false, mTr_placeOfMost, 3))), (375, .inr (.inl (false, mPr_hasRoom, 0))), (378, .inr (.inl (false, mTw_handOn, 5))), (382, .inr (.inl (false, mTw_release, 1))), (385, .inr (.inl (false, mTw_canBake, 1))), (388, .inr (.inl (false, mTw_rainsOn, 1))), (391, .inr (.inl (false, mTw_bringOut, 2))), (395, .inr (.inl (false, mTw_feast, 2))), (398, .inr (.inl (false, mTw_handMoney, 3))), (401, .inl (0, 5)), (405, .inr (.inl (false, mLi_run, 2))), (408, .inl (10, 15)), (411, .inl (1, 3)), (412, .inl (1, 4)), (415, .inl (1, 5)), (418, .inl (1, 6)), (421, .inl (1, 7)), (424, .inl (1, 8)), (427, .inl (10, 9)), (430, .inl (7, 9)), (433, .inl (7, 10)), (436, .inl (5, 3)), (439, .inl (5, 5)), (442, .inr (.inr (.inr (.inr 3)))), (447, .inr (.inl (false, mTw_copyOf, 1)))]
def mRL11 : List (Nat × mZ) := [(7, .inl (11, 3)), (13, .inl (11, 4)), (17, .inl (11, 5)), (20, .inl (11, 6)), (24, .inl (11, 7)), (28, .inl (11, 10)), (32, .inl (11, 11)), (35, .inl (11, 20)), (38, .inl (11, 21)), (41, .inl (11, 22)), (44, .inl (11, 25)), (47, .inl (11, 26)), (50, .inl (11, 27)), (53, .inl (11, 29)), (56, .inl (11, 30)), (59, .inl (11, 31)), (62, .inl (11, 32)), (65, .inl (11, 34)), (68, .inl (11, 35)), (71, .inl (11, 36)), (74, .inl (11, 1)), (77, .inl (11, 0)), (80, .inl (11, 2)), (83, .inr (.inr (.inr (.inr 5)))), (89, .inr (.inl (false, mMo_no, 1))), (93, .inr (.inl (false, mMo_trayed, 1))), (97, .inr (.inl (false, mMo_placed, 2))), (101, .inr (.inl (true, mMo_cut, 2))), (105, .inr (.inr (.inr (.inl (-1))))), (107, .inr (.inr (.inr (.inl (3))))), (109, .inr (.inl (true, mMo_isIn, 3))), (113, .inl (11, 9)), (116, .inl (11, 16)), (119, .inl (11, 15)), (122, .inr (.inl (false, mMo_look2, 1))), (125, .inl (11, 14)), (128, .inr (.inl (true, mMo_isLetter, 1))), (131, .inl (11, 19)), (134, .inr (.inr (.inr (.inl (32))))), (136, .inr (.inr (.inr (.inl (96))))), (138, .inl (11, 18)), (141, .inr (.inl (true, mMo_isDigit, 1))), (144, .inl (11, 17)), (147, .inr (.inl (false, mMo_isSignByte, 1))), (150, .inr (.inl (true, mMo_spelled, 6))), (154, .inr (.inl (false, mMo_isWord, 1))), (158, .inr (.inr (.inr (.inl (5))))), (160, .inr (.inl (false, mMo_isPromise, 0))), (164, .inr (.inl (false, mMo_isPerson, 0))), (167, .inr (.inl (false, mMo_isPurse, 0))), (170, .inr (.inl (false, mMo_isOven, 0))), (173, .inr (.inl (false, mMo_isRain, 0))), (176, .inr (.inl (false, mMo_isLoaf, 0))), (179, .inr (.inl (false, mMo_isBy, 0))), (182, .inr (.inl (false, mMo_isInWord, 0))), (185, .inr (.inl (false, mMo_isOn, 0))), (188, .inr (.inl (false, mMo_isSlices, 0))), (191, .inr (.inl (false, mMo_isFlour, 0))), (194, .inr (.inl (false, mMo_isOf, 0))), (197, .inr (.inl (false, mMo_isFrom, 0))), (200, .inr (.inl (false, mMo_isTo, 0))), (203, .inr (.inl (false, mMo_isFor, 0))), (206, .inr (.inl (false, mMo_stepWord, 0))), (210, .inr (.inl (false, mMo_testWord, 0))), (213, .inr (.inl (false, mMo_isEnd, 0))), (216, .inr (.inl (false, mMo_isKept, 0))), (219, .inl (11, 12)), (222, .inl (11, 13)), (225, .inr (.inl (false, mMo_fail, 2))), (229, .inr (.inl (false, mMo_next, 0))), (232, .inr (.inl (false, mMo_wrong, 0))), (235, .inl (11, 8)), (238, .inr (.inl (false, mMo_lay, 1))), (242, .inr (.inl (false, mMo_named, 3))), (246, .inr (.inl (false, mMo_isName, 0))), (249, .inr (.inl (false, mMo_personNamed, 1))), (252, .inr (.inl (false, mMo_ovenNamed, 1))), (255, .inr (.inl (false, mMo_loafNamed, 1))), (258, .inr (.inr (.inr (.inr 2)))), (261, .inr (.inl (false, mMo_told, 2))), (264, .inr (.inl (false, mMo_must, 1))), (268, .inr (.inl (false, mMo_readNew, 1))), (271, .inr (.inl (false, mMo_count, 2))), (274, .inr (.inl (false, mMo_readTold, 2))), (277, .inr (.inl (false, mMo_readPart, 2))), (280, .inr (.inl (false, mMo_opens, 2))), (284, .inr (.inl (false, mMo_readPerson, 0))), (287, .inr (.inl (false, mMo_readOven, 0))), (290, .inr (.inl (false, mMo_readLoaf, 0))), (293, .inr (.inl (false, mMo_readPromise, 0))), (296, .inr (.inl (false, mMo_isSign, 1))), (299, .inr (.inl (false, mMo_isWell, 0))), (302, .inr (.inl (false, mMo_copy, 2))), (305, .inr (.inl (false, mMo_readTest, 1))), (308, .inl (11, 24)), (311, .inr (.inl (false, mMo_readRest, 1))), (314, .inr (.inl (false, mMo_readStep, 1))), (317, .inr (.inl (true, mMo_part, 1))), (320, .inr (.inl (false, mMo_isMade, 1))), (323, .inr (.inl (false, mMo_isBaked, 1))), (326, .inr (.inl (false, mMo_bakedSet, 0))), (329, .inr (.inl (false, mMo_refuse, 1))), (332, .inr (.inl (false, mMo_isPersonAt, 1))), (335, .inr (.inl (false, mMo_isLoafAt, 1))), (338, .inr (.inl (false, mMo_isPaper, 1))), (341, .inr (.inl (false, mMo_isPromiseAt, 1))), (344, .inr (.inl (false, mMo_isOfLoaf, 2))), (347, .inr (.inl (false, mMo_holdsOf, 2))), (350, .inr (.inl (false, mMo_deepens, 0))), (353, .inr (.inr (.inl (1000000)))), (354, .inr (.inl (false, mMo_turnOf, 2))), (357, .inl (11, 28)), (360, .inr (.inl (false, mMo_lines, 1))), (363, .inr (.inl (false, mMo_comes, 2))), (367, .inr (.inr (.inr (.inr 3)))), (370, .inr (.inl (false, mMo_deals, 2))), (374, .inr (.inl (false, mMo_getsOf, 3))), (378, .inr (.inl (false, mMo_unmet, 2))), (381, .inr (.inl (false, mMo_owesOf, 2))), (384, .inr (.inr (.inr (.inl (16))))), (386, .inr (.inl (false, mMo_fraction, 2))), (390, .inr (.inl (false, mMo_netOf, 1))), (393, .inr (.inl (true, mMo_has, 2))), (396, .inr (.inl (false, mMo_goesRound, 3))), (400, .inl (11, 33)), (403, .inr (.inr (.inr (.inl (999))))), (405, .inr (.inl (false, mMo_isOpen, 1))), (408, .inr (.inl (false, mMo_isHeld, 1))), (411, .inr (.inl (false, mMo_isTray, 1))), (414, .inr (.inr (.inr (.inl (60))))), (416, .inr (.inl (false, mMo_numberOf, 2))), (420, .inr (.inr (.inr (.inl (2))))), (422, .inr (.inr (.inr (.inl (8))))), (424, .inr (.inr (.inr (.inl (40))))), (426, .inr (.inr (.inr (.inl (9999))))), (428, .inr (.inr (.inr (.inr 4)))), (431, .inr (.inr (.inr (.inl (99))))), (433, .inr (.inl (false, mMo_makes, 5))), (437, .inr (.inl (false, mMo_breaks, 1))), (440, .inr (.inl (false, mMo_isWetOven, 1))), (443, .inr (.inl (false, mMo_bakes, 1))), (446, .inr (.inr (.inr (.inl (9))))), (448, .inr (.inl (false, mMo_eats, 2))), (451, .inr (.inl (false, mMo_pays, 3))), (454, .inl (11, 39)), (457, .inr (.inr (.inl (65536)))), (458, .inr (.inl (false, mMo_draw, 0))), (461, .inl (11, 42)), (464, .inl (11, 44)), (467, .inr (.inl (false, mMo_waits, 1))), (470, .inl (11, 43)), (473, .inl (11, 40)), (476, .inl (11, 38)), (480, .inl (11, 45)), (483, .inl (11, 41)), (486, .inr (.inl (false, mMo_does, 1))), (489, .inr (.inl (false, mMo_isSo, 1))), (492, .inr (.inl (false, mMo_doAll, 2))), (495, .inr (.inl (false, mMo_doOne, 1))), (498, .inr (.inl (false, mMo_lives, 1))), (501, .inl (11, 37)), (504, .inr (.inr (.inr (.inl (4))))), (506, .inr (.inr (.inr (.inl (20))))), (508, .inl (11, 23))]
def mRL12 : List (Nat × mZ) := [(13, .inr (.inl (false, mPb_status, 0))), (17, .inr (.inl (false, mMo_status, 0))), (18, .inr (.inl (false, mPb_top, 0))), (22, .inr (.inl (false, mMo_top, 0))), (23, .inr (.inl (false, mPb_bottom, 0))), (26, .inr (.inl (false, mMo_bottom, 0))), (27, .inr (.inl (false, mPb_tray, 3))), (31, .inr (.inl (false, mMo_tray, 3))), (32, .inr (.inr (.inr (.inl (4294967295))))), (34, .inr (.inl (false, mPb_write, 3))), (38, .inr (.inl (false, mMo_write, 3))), (39, .inr (.inl (false, mPb_read, 2))), (43, .inr (.inl (false, mMo_read, 2))), (44, .inr (.inl (false, mPb_pour, 5))), (48, .inr (.inl (false, mMo_pour, 5))), (49, .inr (.inl (false, mPb_feed, 5))), (53, .inr (.inl (false, mMo_feed, 5))), (54, .inr (.inl (false, mPb_town, 1))), (58, .inr (.inl (false, mMo_town, 1))), (59, .inr (.inl (false, mPb_days, 1))), (62, .inr (.inl (false, mMo_days, 1))), (63, .inr (.inl (false, mPb_fault, 1))), (66, .inr (.inl (false, mMo_fault, 1))), (67, .inr (.inl (false, mPb_many, 1))), (70, .inr (.inl (false, mMo_many, 1))), (71, .inr (.inl (false, mPb_person, 2))), (75, .inr (.inl (false, mMo_person, 2))), (76, .inr (.inl (false, mPb_loaf, 2))), (79, .inr (.inl (false, mMo_loaf, 2))), (80, .inr (.inl (false, mPb_promise, 2))), (83, .inr (.inl (false, mMo_promise, 2))), (84, .inr (.inl (false, mPb_holds, 2))), (87, .inr (.inl (false, mMo_holds, 2))), (88, .inr (.inl (false, mPb_deep, 1))), (91, .inr (.inl (false, mMo_deep, 1))), (92, .inr (.inl (false, mPb_first, 3))), (96, .inr (.inl (false, mMo_first, 3))), (97, .inr (.inl (false, mPb_line, 2))), (100, .inr (.inl (false, mMo_line, 2))), (101, .inr (.inl (false, mPb_whose, 3))), (105, .inr (.inl (false, mMo_whose, 3))), (106, .inr (.inl (false, mPb_depth, 1))), (109, .inr (.inl (false, mMo_depth, 1))), (110, .inr (.inl (false, mPb_between, 2))), (113, .inr (.inl (false, mMo_between, 2))), (114, .inr (.inl (false, mPb_gets, 3))), (117, .inr (.inl (false, mMo_gets, 3))), (118, .inr (.inl (false, mPb_shame, 2))), (122, .inr (.inl (false, mMo_shame, 2))), (123, .inr (.inl (false, mPb_mean, 3))), (126, .inr (.inl (false, mMo_mean, 3))), (127, .inr (.inl (false, mPb_net, 1))), (130, .inr (.inl (false, mMo_net, 1))), (131, .inr (.inl (false, mPb_handOvers, 0))), (134, .inr (.inl (false, mMo_handOvers, 0))), (135, .inr (.inl (false, mPb_ring, 0))), (138, .inr (.inl (false, mMo_ring, 0))), (139, .inr (.inl (false, mPb_ringAt, 1))), (142, .inr (.inl (false, mMo_ringAt, 1))), (143, .inr (.inl (false, mPb_owing, 1))), (146, .inr (.inl (false, mMo_owing, 1))), (147, .inr (.inl (false, mPb_saved, 3))), (150, .inr (.inl (false, mMo_saved, 3))), (151, .inr (.inl (false, mPb_faces, 0))), (154, .inr (.inl (false, mMo_faces, 0))), (155, .inr (.inl (false, mPb_keeps, 3))), (158, .inr (.inl (false, mMo_keeps, 3))), (159, .inr (.inl (false, mPb_burst, 0))), (162, .inr (.inl (false, mMo_burst, 0))), (163, .inr (.inl (false, mPb_cuts, 5))), (166, .inr (.inl (false, mMo_cuts, 5))), (167, .inr (.inl (false, mPb_auction, 3))), (170, .inr (.inl (false, mMo_auction, 3))), (171, .inr (.inl (false, mPb_make, 5))), (174, .inr (.inl (false, mMo_make, 5))), (175, .inr (.inl (false, mPb_letGo, 1))), (179, .inr (.inl (false, mMo_letGo, 1))), (180, .inr (.inl (false, mPb_bake, 1))), (183, .inr (.inl (false, mMo_bake, 1))), (184, .inr (.inl (false, mPb_pass, 1))), (187, .inr (.inl (false, mMo_pass, 1))), (188, .inr (.inl (false, mPb_eat, 2))), (191, .inr (.inl (false, mMo_eat, 2))), (192, .inr (.inl (false, mPb_pay, 3))), (195, .inr (.inl (false, mMo_pay, 3))), (196, .inr (.inl (false, mPb_live, 1))), (199, .inr (.inl (false, mMo_live, 1))), (200, .inr (.inl (false, mPb_lived, 1))), (203, .inr (.inl (false, mMo_lived, 1))), (204, .inr (.inl (false, mPb_odds, 4))), (208, .inr (.inl (false, mMo_odds, 4))), (209, .inr (.inl (false, mPb_mark, 0))), (212, .inr (.inl (false, mMo_mark, 0))), (213, .inr (.inl (false, mPb_back, 0))), (216, .inr (.inl (false, mMo_back, 0)))]
def mRL13 : List (Nat × mZ) := []
def mRL14 : List (Nat × mZ) := []
def mRLs : List (List (Nat × mZ)) := [mRL0, mRL1, mRL2, mRL3, mRL4, mRL5, mRL6, mRL7, mRL8, mRL9, mRL10, mRL11, mRL12, mRL13, mRL14]
def mRz (c idx : Nat) : Option mZ := (mRLs.getD c []).lookup idx
theorem mLookup_mem {β : Type} {l : List (Nat × β)} {a : Nat} {b : β} (h : l.lookup a = some b) : (a, b) ∈ l := by
  induction l with
  | nil => cases h
  | cons q t ih =>
    obtain ⟨x, y⟩ := q
    rw [List.lookup_cons] at h
    by_cases e : a = x
    · subst e; simp at h; subst h; exact List.mem_cons_self
    · have e2 : (a == x) = false := by simp [e]
      rw [e2] at h
      exact List.mem_cons_of_mem _ (ih h)
def mCN : List String := ["PaperBread$Days", "PaperBread$Living", "PaperBread$Names", "PaperBread$Netting", "PaperBread$Promises", "PaperBread$Share", "PaperBread$Texts", "PaperBread$Tokens", "PaperBread$Town", "PaperBread$Trays", "PaperBread", "PaperBreadModel", "PaperBreadLaw", "java/lang/Math", "java/util/Arrays"]
def mNeed (own : String) (idx : Nat) : mZ → List Cond
  | .inl (ci, k) => match vwCl[ci]? with
    | some (C, T, _) => [.fieldLink own idx C (T k).2.1 (T k).2.2.1]
    | none => [.initialized ""]
  | .inr (.inl (true, M, _)) => [.methodLink own idx (mY M), .initialized (mY M).cls, .code (mY M) (mC M) (mL M) (mR M), .static (mY M)]
  | .inr (.inl (false, M, _)) => [.methodLink own idx (mY M), .initialized (mY M).cls, .code (mY M) (mC M) (mL M) (mR M), .instanceMethod (mY M), .selects (mY M).cls (mY M) (mY M)]
  | .inr (.inr (.inl v)) => [.constant own idx v]
  | .inr (.inr (.inr (.inl v))) => [.constantLong own idx v]
  | .inr (.inr (.inr (.inr 0))) => [.methodLink own idx arraycopyName, .native arraycopyName, .static arraycopyName, .initialized "java/lang/System"]
  | .inr (.inr (.inr (.inr 1))) => [.fieldLink own idx "PaperBread$Names" "STARTS" "[I"]
  | .inr (.inr (.inr (.inr 2))) => [.methodLink own idx Lib.Math.max.name, .static Lib.Math.max.name, .initialized "java/lang/Math", .code Lib.Math.max.name Lib.Math.max.code 2 (some .int)]
  | .inr (.inr (.inr (.inr 3))) => [.methodLink own idx Lib.Math.min.name, .static Lib.Math.min.name, .initialized "java/lang/Math", .code Lib.Math.min.name Lib.Math.min.code 2 (some .int)]
  | .inr (.inr (.inr (.inr 4))) => [.methodLink own idx Lib.MathLoose.max_long.x, .static Lib.MathLoose.max_long.x, .initialized "java/lang/Math", .code Lib.MathLoose.max_long.x Lib.MathLoose.max_long.code 4 (some .long)]
  | .inr (.inr (.inr (.inr (_ + 5)))) => [.methodLink own idx Lib.MathLoose.abs_long.x, .static Lib.MathLoose.abs_long.x, .initialized "java/lang/Math", .code Lib.MathLoose.abs_long.x Lib.MathLoose.abs_long.code 2 (some .long)]
/-- what must be so of a called method: its kind's name, how many parameters, few locals -/
def mSane (M : mM) (n : Nat) : Prop := mCN[mK M]? = some (mY M).cls ∧ mK M ≠ 13 ∧ (parseMethodDescriptor (mY M).desc).map (fun d => d.parameters.length) = some n ∧ mL M ≤ 20
def mSaneZ : mZ → Prop
  | .inl (ci, k) => ∃ C T N, vwCl[ci]? = some (C, T, N) ∧ k < N
  | .inr (.inl (_, M, n)) => mSane M n
  | _ => True
/-- the words that hold at the law's entry, those that stay true -/
def mTB : List Cond := lw_tbl.filter goodWord
def mChunk : Nat → List Cond
  | 0 => k2_sels lw_privs
  | 1 => tables_1_1
  | 2 => tables_1_2
  | 3 => tables_1_3
  | 4 => tables_1_4
  | 5 => tables_1_5
  | 6 => tables_1_6
  | 7 => tables_1_7
  | 8 => tables_1_8
  | 9 => tables_1_9
  | _ => []
theorem mChunk_in : ∀ (k : Nat) (w : Cond), w ∈ mChunk k → w ∈ lw_tbl
  | 0, w, h => List.mem_append_left _ h
  | 1, w, h => by simp only [lw_tbl, tables_1, List.mem_append]; exact Or.inr (Or.inl h)
  | 2, w, h => by simp only [lw_tbl, tables_1, List.mem_append]; exact Or.inr (Or.inr (Or.inl h))
  | 3, w, h => by simp only [lw_tbl, tables_1, List.mem_append]; exact Or.inr (Or.inr (Or.inr (Or.inl h)))
  | 4, w, h => by simp only [lw_tbl, tables_1, List.mem_append]; exact Or.inr (Or.inr (Or.inr (Or.inr (Or.inl h))))
  | 5, w, h => by simp only [lw_tbl, tables_1, List.mem_append]; exact Or.inr (Or.inr (Or.inr (Or.inr (Or.inr (Or.inl h)))))
  | 6, w, h => by simp only [lw_tbl, tables_1, List.mem_append]; exact Or.inr (Or.inr (Or.inr (Or.inr (Or.inr (Or.inr (Or.inl h))))))
  | 7, w, h => by simp only [lw_tbl, tables_1, List.mem_append]; exact Or.inr (Or.inr (Or.inr (Or.inr (Or.inr (Or.inr (Or.inr (Or.inl h)))))))
  | 8, w, h => by simp only [lw_tbl, tables_1, List.mem_append]; exact Or.inr (Or.inr (Or.inr (Or.inr (Or.inr (Or.inr (Or.inr (Or.inr (Or.inl h))))))))
  | 9, w, h => by simp only [lw_tbl, tables_1, List.mem_append]; exact Or.inr (Or.inr (Or.inr (Or.inr (Or.inr (Or.inr (Or.inr (Or.inr (Or.inr h))))))))
  | _ + 10, w, h => absurd h List.not_mem_nil
def mP (c : Nat) (q : Nat × mZ) : Prop := (∀ w ∈ mNeed (mCN.getD c "") q.1 q.2, w ∈ mTB) ∧ mSaneZ q.2
theorem mP_of {own : String} {idx : Nat} {z : mZ} {c : Nat} (ps : List (Nat × Nat)) (hc : mCN.getD c "" = own) (h : mNeed own idx z = ps.filterMap (fun p => (mChunk p.1)[p.2]?)) (hg : (mNeed own idx z).all goodWord = true) (hs : mSaneZ z) : mP c (idx, z) := by
  refine ⟨fun w hw => ?_, hs⟩
  simp only [hc] at hw
  refine List.mem_filter.mpr ⟨?_, List.all_eq_true.mp hg w hw⟩
  rw [h] at hw
  obtain ⟨i, -, hi⟩ := List.mem_filterMap.mp hw
  exact mChunk_in i.1 w (List.mem_of_getElem? hi)
/-- the cells in the order of their making: (sort, how many or which kind, fields). Sorts 0 int[], 1 byte[], 2 boolean[], 3 long[], 4 Town[], 5 an object; a field is 0 an int, 1 a long, n + 2 a reference to cell n -/
abbrev mSh : Type := Nat × Nat × List Nat
def mS0_0 : List mSh := [(5, 10, [3, 7, 12, 37, 62, 63, 70, 75, 84, 0, 0, 1, 1, 0, 0, 0]), (5, 9, [4, 5, 6]), (3, 240, []), (0, 4, []), (0, 4, []), (5, 6, [8, 11]), (5, 7, [9, 10, 0, 0, 0, 0, 0, 0, 1, 0, 0]), (1, 900, []), (3, 28, []), (0, 5, []), (5, 8, [13, 15, 24, 27, 28, 29, 30, 31, 32, 33, 34, 35, 36, 0, 0, 0, 0, 0, 0]), (5, 2, [14]), (3, 20, []), (5, 4, [16, 17, 18, 19, 20, 21, 22, 23, 0]), (0, 40, []), (0, 40, []), (0, 40, []), (0, 40, []), (0, 40, []), (2, 40, [])]
def mS0_1 : List mSh := [(0, 40, []), (0, 8, []), (5, 0, [25, 26, 0, 0, 0, 0]), (0, 420, []), (0, 3, []), (0, 8, []), (0, 8, []), (0, 8, []), (0, 4, []), (0, 8, []), (0, 8, []), (0, 8, []), (0, 8, []), (0, 8, []), (0, 8, []), (5, 8, [38, 40, 49, 52, 53, 54, 55, 56, 57, 58, 59, 60, 61, 0, 0, 0, 0, 0, 0]), (5, 2, [39]), (3, 20, []), (5, 4, [41, 42, 43, 44, 45, 46, 47, 48, 0]), (0, 40, [])]
def mS0_2 : List mSh := [(0, 40, []), (0, 40, []), (0, 40, []), (0, 40, []), (2, 40, []), (0, 40, []), (0, 8, []), (5, 0, [50, 51, 0, 0, 0, 0]), (0, 420, []), (0, 3, []), (0, 8, []), (0, 8, []), (0, 8, []), (0, 4, []), (0, 8, []), (0, 8, []), (0, 8, []), (0, 8, []), (0, 8, []), (0, 8, [])]
def mS0_3 : List mSh := [(4, 3, [91, 116, 141]), (5, 5, [64, 65, 66, 67, 68, 69, 0]), (0, 8, []), (0, 8, []), (0, 8, []), (0, 8, []), (0, 8, []), (0, 8, []), (5, 3, [71, 72, 73, 74, 0]), (0, 256, []), (0, 256, []), (0, 64, []), (0, 8, []), (5, 1, [76, 83, 0, 0, 0, 0, 0, 0, 0]), (5, 5, [77, 78, 79, 80, 81, 82, 0]), (0, 8, []), (0, 8, []), (0, 8, []), (0, 8, []), (0, 8, [])]
def mS0_4 : List mSh := [(0, 8, []), (0, 60, []), (5, 1, [85, 92, 0, 0, 0, 0, 0, 0, 0]), (5, 5, [86, 87, 88, 89, 90, 91, 0]), (0, 8, []), (0, 8, []), (0, 8, []), (0, 8, []), (0, 8, []), (0, 8, []), (0, 60, []), (5, 8, [94, 96, 105, 108, 109, 110, 111, 112, 113, 114, 115, 116, 117, 0, 0, 0, 0, 0, 0]), (5, 2, [95]), (3, 20, []), (5, 4, [97, 98, 99, 100, 101, 102, 103, 104, 0]), (0, 40, []), (0, 40, []), (0, 40, []), (0, 40, []), (0, 40, [])]
def mS0_5 : List mSh := [(2, 40, []), (0, 40, []), (0, 8, []), (5, 0, [106, 107, 0, 0, 0, 0]), (0, 420, []), (0, 3, []), (0, 8, []), (0, 8, []), (0, 8, []), (0, 4, []), (0, 8, []), (0, 8, []), (0, 8, []), (0, 8, []), (0, 8, []), (0, 8, []), (5, 8, [119, 121, 130, 133, 134, 135, 136, 137, 138, 139, 140, 141, 142, 0, 0, 0, 0, 0, 0]), (5, 2, [120]), (3, 20, []), (5, 4, [122, 123, 124, 125, 126, 127, 128, 129, 0])]
def mS0_6 : List mSh := [(0, 40, []), (0, 40, []), (0, 40, []), (0, 40, []), (0, 40, []), (2, 40, []), (0, 40, []), (0, 8, []), (5, 0, [131, 132, 0, 0, 0, 0]), (0, 420, []), (0, 3, []), (0, 8, []), (0, 8, []), (0, 8, []), (0, 4, []), (0, 8, []), (0, 8, []), (0, 8, []), (0, 8, []), (0, 8, [])]
def mS0_7 : List mSh := [(0, 8, []), (5, 8, [144, 146, 155, 158, 159, 160, 161, 162, 163, 164, 165, 166, 167, 0, 0, 0, 0, 0, 0]), (5, 2, [145]), (3, 20, []), (5, 4, [147, 148, 149, 150, 151, 152, 153, 154, 0]), (0, 40, []), (0, 40, []), (0, 40, []), (0, 40, []), (0, 40, []), (2, 40, []), (0, 40, []), (0, 8, []), (5, 0, [156, 157, 0, 0, 0, 0]), (0, 420, []), (0, 3, []), (0, 8, []), (0, 8, []), (0, 8, []), (0, 4, [])]
def mS0_8 : List mSh := [(0, 8, []), (0, 8, []), (0, 8, []), (0, 8, []), (0, 8, []), (0, 8, []), (5, 11, [0, 0, 1, 1, 169, 170, 171, 172, 0, 0, 0, 0, 0, 0, 0, 0, 0, 0, 0, 1, 173, 174, 175, 0, 0, 176, 177, 178, 0, 179, 180, 181, 182, 0, 183, 184, 185, 0, 0, 0, 0, 0, 0, 0, 0, 0]), (0, 4, []), (0, 4, []), (3, 240, []), (1, 900, []), (0, 3000, []), (0, 322, []), (3, 100, []), (0, 40, []), (0, 8, []), (0, 8, []), (0, 256, []), (0, 256, []), (0, 8, [])]
def mS0_9 : List mSh := [(0, 8, []), (0, 42, []), (0, 42, []), (0, 5, [])]
def mS0 : List mSh := mS0_0 ++ (mS0_1 ++ (mS0_2 ++ (mS0_3 ++ (mS0_4 ++ (mS0_5 ++ (mS0_6 ++ (mS0_7 ++ (mS0_8 ++ (mS0_9)))))))))
end
section
theorem sn_mAr_fill : mSane mAr_fill 2 := ⟨rfl, by decide, by decide +kernel, by decide⟩
theorem sn_mPb_status : mSane mPb_status 0 := ⟨rfl, by decide, by decide +kernel, by decide⟩
theorem sn_mPb_top : mSane mPb_top 0 := ⟨rfl, by decide, by decide +kernel, by decide⟩
theorem sn_mPb_bottom : mSane mPb_bottom 0 := ⟨rfl, by decide, by decide +kernel, by decide⟩
theorem sn_mPb_tray : mSane mPb_tray 3 := ⟨rfl, by decide, by decide +kernel, by decide⟩
theorem sn_mTr_exists : mSane mTr_exists 1 := ⟨rfl, by decide, by decide +kernel, by decide⟩
theorem sn_mTr_isSort : mSane mTr_isSort 1 := ⟨rfl, by decide, by decide +kernel, by decide⟩
theorem sn_mPb_deny : mSane mPb_deny 1 := ⟨rfl, by decide, by decide +kernel, by decide⟩
theorem sn_mTr_lay : mSane mTr_lay 3 := ⟨rfl, by decide, by decide +kernel, by decide⟩
theorem sn_mPb_grant : mSane mPb_grant 0 := ⟨rfl, by decide, by decide +kernel, by decide⟩
theorem sn_mPb_write : mSane mPb_write 3 := ⟨rfl, by decide, by decide +kernel, by decide⟩
theorem sn_mTr_whyNot : mSane mTr_whyNot 2 := ⟨rfl, by decide, by decide +kernel, by decide⟩
theorem sn_mTr_isMissing : mSane mTr_isMissing 1 := ⟨rfl, by decide, by decide +kernel, by decide⟩
theorem sn_mTr_hasRow : mSane mTr_hasRow 3 := ⟨rfl, by decide, by decide +kernel, by decide⟩
theorem sn_mTr_lengthOf : mSane mTr_lengthOf 1 := ⟨rfl, by decide, by decide +kernel, by decide⟩
theorem sn_mTr_put : mSane mTr_put 3 := ⟨rfl, by decide, by decide +kernel, by decide⟩
theorem sn_mTr_cutTo : mSane mTr_cutTo 2 := ⟨rfl, by decide, by decide +kernel, by decide⟩
theorem sn_mPb_read : mSane mPb_read 2 := ⟨rfl, by decide, by decide +kernel, by decide⟩
theorem sn_mPb_refuse : mSane mPb_refuse 1 := ⟨rfl, by decide, by decide +kernel, by decide⟩
theorem sn_mTr_at : mSane mTr_at 2 := ⟨rfl, by decide, by decide +kernel, by decide⟩
theorem sn_mPb_pour : mSane mPb_pour 5 := ⟨rfl, by decide, by decide +kernel, by decide⟩
theorem sn_mTr_alike : mSane mTr_alike 2 := ⟨rfl, by decide, by decide +kernel, by decide⟩
theorem sn_mTr_move : mSane mTr_move 5 := ⟨rfl, by decide, by decide +kernel, by decide⟩
theorem sn_mPb_feed : mSane mPb_feed 5 := ⟨rfl, by decide, by decide +kernel, by decide⟩
theorem sn_mTo_hasRoomFor : mSane mTo_hasRoomFor 1 := ⟨rfl, by decide, by decide +kernel, by decide⟩
theorem sn_mTo_append : mSane mTo_append 1 := ⟨rfl, by decide, by decide +kernel, by decide⟩
theorem sn_mPb_town : mSane mPb_town 1 := ⟨rfl, by decide, by decide +kernel, by decide⟩
theorem sn_mTe_readTown : mSane mTe_readTown 2 := ⟨rfl, by decide, by decide +kernel, by decide⟩
theorem sn_mTw_clear : mSane mTw_clear 0 := ⟨rfl, by decide, by decide +kernel, by decide⟩
theorem sn_mNa_clear : mSane mNa_clear 0 := ⟨rfl, by decide, by decide +kernel, by decide⟩
theorem sn_mAr_filll : mSane mAr_filll 2 := ⟨rfl, by decide, by decide +kernel, by decide⟩
theorem sn_mDa_clear : mSane mDa_clear 0 := ⟨rfl, by decide, by decide +kernel, by decide⟩
theorem sn_mTo_open : mSane mTo_open 1 := ⟨rfl, by decide, by decide +kernel, by decide⟩
theorem sn_mTo_advance : mSane mTo_advance 0 := ⟨rfl, by decide, by decide +kernel, by decide⟩
theorem sn_mTo_cutWord : mSane mTo_cutWord 0 := ⟨rfl, by decide, by decide +kernel, by decide⟩
theorem sn_mTo_cutNumber : mSane mTo_cutNumber 0 := ⟨rfl, by decide, by decide +kernel, by decide⟩
theorem sn_mTo_goesOn : mSane mTo_goesOn 0 := ⟨rfl, by decide, by decide +kernel, by decide⟩
theorem sn_mTo_wordHere : mSane mTo_wordHere 0 := ⟨rfl, by decide, by decide +kernel, by decide⟩
theorem sn_mTe_readPerson : mSane mTe_readPerson 1 := ⟨rfl, by decide, by decide +kernel, by decide⟩
theorem sn_mTe_beginPart : mSane mTe_beginPart 2 := ⟨rfl, by decide, by decide +kernel, by decide⟩
theorem sn_mTo_blame : mSane mTo_blame 1 := ⟨rfl, by decide, by decide +kernel, by decide⟩
theorem sn_mTo_takeWord : mSane mTo_takeWord 1 := ⟨rfl, by decide, by decide +kernel, by decide⟩
theorem sn_mTo_isWord : mSane mTo_isWord 1 := ⟨rfl, by decide, by decide +kernel, by decide⟩
theorem sn_mTo_misplaced : mSane mTo_misplaced 0 := ⟨rfl, by decide, by decide +kernel, by decide⟩
theorem sn_mTo_takeNewName : mSane mTo_takeNewName 1 := ⟨rfl, by decide, by decide +kernel, by decide⟩
theorem sn_mTo_seesName : mSane mTo_seesName 0 := ⟨rfl, by decide, by decide +kernel, by decide⟩
theorem sn_mNa_isTaken : mSane mNa_isTaken 1 := ⟨rfl, by decide, by decide +kernel, by decide⟩
theorem sn_mTo_skips : mSane mTo_skips 1 := ⟨rfl, by decide, by decide +kernel, by decide⟩
theorem sn_mTo_takeNumber : mSane mTo_takeNumber 2 := ⟨rfl, by decide, by decide +kernel, by decide⟩
theorem sn_mTe_endsPart : mSane mTe_endsPart 0 := ⟨rfl, by decide, by decide +kernel, by decide⟩
theorem sn_mTo_takeSign : mSane mTo_takeSign 1 := ⟨rfl, by decide, by decide +kernel, by decide⟩
theorem sn_mTw_addPerson : mSane mTw_addPerson 2 := ⟨rfl, by decide, by decide +kernel, by decide⟩
theorem sn_mNa_give : mSane mNa_give 3 := ⟨rfl, by decide, by decide +kernel, by decide⟩
theorem sn_mTe_readOven : mSane mTe_readOven 1 := ⟨rfl, by decide, by decide +kernel, by decide⟩
theorem sn_mTw_addOven : mSane mTw_addOven 2 := ⟨rfl, by decide, by decide +kernel, by decide⟩
theorem sn_mTe_readLoaf : mSane mTe_readLoaf 1 := ⟨rfl, by decide, by decide +kernel, by decide⟩
theorem sn_mTo_takeName : mSane mTo_takeName 3 := ⟨rfl, by decide, by decide +kernel, by decide⟩
theorem sn_mNa_numberOf : mSane mNa_numberOf 2 := ⟨rfl, by decide, by decide +kernel, by decide⟩
theorem sn_mTw_addLoaf : mSane mTw_addLoaf 6 := ⟨rfl, by decide, by decide +kernel, by decide⟩
theorem sn_mTw_hasPerson : mSane mTw_hasPerson 1 := ⟨rfl, by decide, by decide +kernel, by decide⟩
theorem sn_mTe_readTownPromise : mSane mTe_readTownPromise 1 := ⟨rfl, by decide, by decide +kernel, by decide⟩
theorem sn_mTe_readPromise : mSane mTe_readPromise 1 := ⟨rfl, by decide, by decide +kernel, by decide⟩
theorem sn_mTw_handOn : mSane mTw_handOn 5 := ⟨rfl, by decide, by decide +kernel, by decide⟩
theorem sn_mPr_hasRoom : mSane mPr_hasRoom 0 := ⟨rfl, by decide, by decide +kernel, by decide⟩
theorem sn_mPb_keepFault : mSane mPb_keepFault 0 := ⟨rfl, by decide, by decide +kernel, by decide⟩
theorem sn_mPb_carry : mSane mPb_carry 2 := ⟨rfl, by decide, by decide +kernel, by decide⟩
theorem sn_mTw_copyOf : mSane mTw_copyOf 1 := ⟨rfl, by decide, by decide +kernel, by decide⟩
theorem sn_mNa_copyOf : mSane mNa_copyOf 1 := ⟨rfl, by decide, by decide +kernel, by decide⟩
theorem sn_mPr_copyOf : mSane mPr_copyOf 1 := ⟨rfl, by decide, by decide +kernel, by decide⟩
theorem sn_mDa_copyOf : mSane mDa_copyOf 1 := ⟨rfl, by decide, by decide +kernel, by decide⟩
theorem sn_mPb_answer : mSane mPb_answer 1 := ⟨rfl, by decide, by decide +kernel, by decide⟩
theorem sn_mPb_days : mSane mPb_days 1 := ⟨rfl, by decide, by decide +kernel, by decide⟩
theorem sn_mTe_readDays : mSane mTe_readDays 3 := ⟨rfl, by decide, by decide +kernel, by decide⟩
theorem sn_mTe_readEnd : mSane mTe_readEnd 1 := ⟨rfl, by decide, by decide +kernel, by decide⟩
theorem sn_mDa_close : mSane mDa_close 1 := ⟨rfl, by decide, by decide +kernel, by decide⟩
theorem sn_mDa_add : mSane mDa_add 2 := ⟨rfl, by decide, by decide +kernel, by decide⟩
theorem sn_mTe_mayStepHere : mSane mTe_mayStepHere 2 := ⟨rfl, by decide, by decide +kernel, by decide⟩
theorem sn_mTe_isStep : mSane mTe_isStep 1 := ⟨rfl, by decide, by decide +kernel, by decide⟩
theorem sn_mTe_begins : mSane mTe_begins 1 := ⟨rfl, by decide, by decide +kernel, by decide⟩
theorem sn_mTe_readStep : mSane mTe_readStep 2 := ⟨rfl, by decide, by decide +kernel, by decide⟩
theorem sn_mTe_readTest : mSane mTe_readTest 1 := ⟨rfl, by decide, by decide +kernel, by decide⟩
theorem sn_mTo_takeCompares : mSane mTo_takeCompares 0 := ⟨rfl, by decide, by decide +kernel, by decide⟩
theorem sn_mTe_addStep : mSane mTe_addStep 2 := ⟨rfl, by decide, by decide +kernel, by decide⟩
theorem sn_mDa_begin : mSane mDa_begin 0 := ⟨rfl, by decide, by decide +kernel, by decide⟩
theorem sn_mPb_fault : mSane mPb_fault 1 := ⟨rfl, by decide, by decide +kernel, by decide⟩
theorem sn_mPb_many : mSane mPb_many 1 := ⟨rfl, by decide, by decide +kernel, by decide⟩
theorem sn_mPb_person : mSane mPb_person 2 := ⟨rfl, by decide, by decide +kernel, by decide⟩
theorem sn_mPb_loaf : mSane mPb_loaf 2 := ⟨rfl, by decide, by decide +kernel, by decide⟩
theorem sn_mTw_hasLoaf : mSane mTw_hasLoaf 1 := ⟨rfl, by decide, by decide +kernel, by decide⟩
theorem sn_mTw_isPaper : mSane mTw_isPaper 1 := ⟨rfl, by decide, by decide +kernel, by decide⟩
theorem sn_mTw_isBaked : mSane mTw_isBaked 1 := ⟨rfl, by decide, by decide +kernel, by decide⟩
theorem sn_mPb_promise : mSane mPb_promise 2 := ⟨rfl, by decide, by decide +kernel, by decide⟩
theorem sn_mPr_has : mSane mPr_has 1 := ⟨rfl, by decide, by decide +kernel, by decide⟩
theorem sn_mPb_holds : mSane mPb_holds 2 := ⟨rfl, by decide, by decide +kernel, by decide⟩
theorem sn_mSh_weigh : mSane mSh_weigh 2 := ⟨rfl, by decide, by decide +kernel, by decide⟩
theorem sn_mSh_lineUp : mSane mSh_lineUp 0 := ⟨rfl, by decide, by decide +kernel, by decide⟩
theorem sn_mPb_deep : mSane mPb_deep 1 := ⟨rfl, by decide, by decide +kernel, by decide⟩
theorem sn_mPr_deepest : mSane mPr_deepest 2 := ⟨rfl, by decide, by decide +kernel, by decide⟩
theorem sn_mPb_first : mSane mPb_first 3 := ⟨rfl, by decide, by decide +kernel, by decide⟩
theorem sn_mPb_line : mSane mPb_line 2 := ⟨rfl, by decide, by decide +kernel, by decide⟩
theorem sn_mPb_whose : mSane mPb_whose 3 := ⟨rfl, by decide, by decide +kernel, by decide⟩
theorem sn_mTw_comesOf : mSane mTw_comesOf 2 := ⟨rfl, by decide, by decide +kernel, by decide⟩
theorem sn_mSh_deal : mSane mSh_deal 1 := ⟨rfl, by decide, by decide +kernel, by decide⟩
theorem sn_mSh_ownerOf : mSane mSh_ownerOf 1 := ⟨rfl, by decide, by decide +kernel, by decide⟩
theorem sn_mPb_depth : mSane mPb_depth 1 := ⟨rfl, by decide, by decide +kernel, by decide⟩
theorem sn_mTw_bakerOf : mSane mTw_bakerOf 1 := ⟨rfl, by decide, by decide +kernel, by decide⟩
theorem sn_mPb_between : mSane mPb_between 2 := ⟨rfl, by decide, by decide +kernel, by decide⟩
theorem sn_mPr_handed : mSane mPr_handed 2 := ⟨rfl, by decide, by decide +kernel, by decide⟩
theorem sn_mPr_stands : mSane mPr_stands 1 := ⟨rfl, by decide, by decide +kernel, by decide⟩
theorem sn_mPb_gets : mSane mPb_gets 3 := ⟨rfl, by decide, by decide +kernel, by decide⟩
theorem sn_mPb_wouldGet : mSane mPb_wouldGet 3 := ⟨rfl, by decide, by decide +kernel, by decide⟩
theorem sn_mPb_shame : mSane mPb_shame 2 := ⟨rfl, by decide, by decide +kernel, by decide⟩
theorem sn_mSh_settle : mSane mSh_settle 3 := ⟨rfl, by decide, by decide +kernel, by decide⟩
theorem sn_mPb_mean : mSane mPb_mean 3 := ⟨rfl, by decide, by decide +kernel, by decide⟩
theorem sn_mTw_rainOn : mSane mTw_rainOn 1 := ⟨rfl, by decide, by decide +kernel, by decide⟩
theorem sn_mPb_tell : mSane mPb_tell 2 := ⟨rfl, by decide, by decide +kernel, by decide⟩
theorem sn_mPb_net : mSane mPb_net 1 := ⟨rfl, by decide, by decide +kernel, by decide⟩
theorem sn_mPr_surplus : mSane mPr_surplus 1 := ⟨rfl, by decide, by decide +kernel, by decide⟩
theorem sn_mPb_handOvers : mSane mPb_handOvers 0 := ⟨rfl, by decide, by decide +kernel, by decide⟩
theorem sn_mNe_fewestHandOvers : mSane mNe_fewestHandOvers 1 := ⟨rfl, by decide, by decide +kernel, by decide⟩
theorem sn_mPb_ring : mSane mPb_ring 0 := ⟨rfl, by decide, by decide +kernel, by decide⟩
theorem sn_mNe_findRing : mSane mNe_findRing 1 := ⟨rfl, by decide, by decide +kernel, by decide⟩
theorem sn_mNe_measure : mSane mNe_measure 1 := ⟨rfl, by decide, by decide +kernel, by decide⟩
theorem sn_mNe_way : mSane mNe_way 2 := ⟨rfl, by decide, by decide +kernel, by decide⟩
theorem sn_mNe_nextOnWay : mSane mNe_nextOnWay 4 := ⟨rfl, by decide, by decide +kernel, by decide⟩
theorem sn_mPb_ringAt : mSane mPb_ringAt 1 := ⟨rfl, by decide, by decide +kernel, by decide⟩
theorem sn_mPb_owing : mSane mPb_owing 1 := ⟨rfl, by decide, by decide +kernel, by decide⟩
theorem sn_mPb_saved : mSane mPb_saved 3 := ⟨rfl, by decide, by decide +kernel, by decide⟩
theorem sn_mSh_gather : mSane mSh_gather 2 := ⟨rfl, by decide, by decide +kernel, by decide⟩
theorem sn_mSh_cheapestSet : mSane mSh_cheapestSet 2 := ⟨rfl, by decide, by decide +kernel, by decide⟩
theorem sn_mSh_gathered : mSane mSh_gathered 1 := ⟨rfl, by decide, by decide +kernel, by decide⟩
theorem sn_mTw_flourOf : mSane mTw_flourOf 1 := ⟨rfl, by decide, by decide +kernel, by decide⟩
theorem sn_mPb_faces : mSane mPb_faces 0 := ⟨rfl, by decide, by decide +kernel, by decide⟩
theorem sn_mSh_othersHold : mSane mSh_othersHold 1 := ⟨rfl, by decide, by decide +kernel, by decide⟩
theorem sn_mPb_keeps : mSane mPb_keeps 3 := ⟨rfl, by decide, by decide +kernel, by decide⟩
theorem sn_mTr_allWithin : mSane mTr_allWithin 3 := ⟨rfl, by decide, by decide +kernel, by decide⟩
theorem sn_mPb_firstBrokenDay : mSane mPb_firstBrokenDay 3 := ⟨rfl, by decide, by decide +kernel, by decide⟩
theorem sn_mPb_burst : mSane mPb_burst 0 := ⟨rfl, by decide, by decide +kernel, by decide⟩
theorem sn_mPb_cuts : mSane mPb_cuts 5 := ⟨rfl, by decide, by decide +kernel, by decide⟩
theorem sn_mPb_cuttingTurn : mSane mPb_cuttingTurn 4 := ⟨rfl, by decide, by decide +kernel, by decide⟩
theorem sn_mPb_auction : mSane mPb_auction 3 := ⟨rfl, by decide, by decide +kernel, by decide⟩
theorem sn_mTr_placeOfMost : mSane mTr_placeOfMost 3 := ⟨rfl, by decide, by decide +kernel, by decide⟩
theorem sn_mPb_make : mSane mPb_make 5 := ⟨rfl, by decide, by decide +kernel, by decide⟩
theorem sn_mPb_letGo : mSane mPb_letGo 1 := ⟨rfl, by decide, by decide +kernel, by decide⟩
theorem sn_mTw_release : mSane mTw_release 1 := ⟨rfl, by decide, by decide +kernel, by decide⟩
theorem sn_mPb_bake : mSane mPb_bake 1 := ⟨rfl, by decide, by decide +kernel, by decide⟩
theorem sn_mTw_canBake : mSane mTw_canBake 1 := ⟨rfl, by decide, by decide +kernel, by decide⟩
theorem sn_mTw_rainsOn : mSane mTw_rainsOn 1 := ⟨rfl, by decide, by decide +kernel, by decide⟩
theorem sn_mTw_isWet : mSane mTw_isWet 1 := ⟨rfl, by decide, by decide +kernel, by decide⟩
theorem sn_mTw_bringOut : mSane mTw_bringOut 2 := ⟨rfl, by decide, by decide +kernel, by decide⟩
theorem sn_mPb_pass : mSane mPb_pass 1 := ⟨rfl, by decide, by decide +kernel, by decide⟩
theorem sn_mPb_eat : mSane mPb_eat 2 := ⟨rfl, by decide, by decide +kernel, by decide⟩
theorem sn_mTw_feast : mSane mTw_feast 2 := ⟨rfl, by decide, by decide +kernel, by decide⟩
theorem sn_mPb_pay : mSane mPb_pay 3 := ⟨rfl, by decide, by decide +kernel, by decide⟩
theorem sn_mTw_handMoney : mSane mTw_handMoney 3 := ⟨rfl, by decide, by decide +kernel, by decide⟩
theorem sn_mPb_live : mSane mPb_live 1 := ⟨rfl, by decide, by decide +kernel, by decide⟩
theorem sn_mLi_run : mSane mLi_run 2 := ⟨rfl, by decide, by decide +kernel, by decide⟩
theorem sn_mLi_goOn : mSane mLi_goOn 2 := ⟨rfl, by decide, by decide +kernel, by decide⟩
theorem sn_mDa_cell : mSane mDa_cell 2 := ⟨rfl, by decide, by decide +kernel, by decide⟩
theorem sn_mLi_behindEnd : mSane mLi_behindEnd 2 := ⟨rfl, by decide, by decide +kernel, by decide⟩
theorem sn_mLi_isTrue : mSane mLi_isTrue 2 := ⟨rfl, by decide, by decide +kernel, by decide⟩
theorem sn_mLi_compares : mSane mLi_compares 3 := ⟨rfl, by decide, by decide +kernel, by decide⟩
theorem sn_mLi_isDone : mSane mLi_isDone 3 := ⟨rfl, by decide, by decide +kernel, by decide⟩
theorem sn_mLi_hasBaked : mSane mLi_hasBaked 2 := ⟨rfl, by decide, by decide +kernel, by decide⟩
theorem sn_mLi_hasWaited : mSane mLi_hasWaited 2 := ⟨rfl, by decide, by decide +kernel, by decide⟩
theorem sn_mLi_nextDraw : mSane mLi_nextDraw 0 := ⟨rfl, by decide, by decide +kernel, by decide⟩
theorem sn_mPb_lived : mSane mPb_lived 1 := ⟨rfl, by decide, by decide +kernel, by decide⟩
theorem sn_mPb_odds : mSane mPb_odds 4 := ⟨rfl, by decide, by decide +kernel, by decide⟩
theorem sn_mPb_mark : mSane mPb_mark 0 := ⟨rfl, by decide, by decide +kernel, by decide⟩
theorem sn_mPb_back : mSane mPb_back 0 := ⟨rfl, by decide, by decide +kernel, by decide⟩
theorem sn_mMo_status : mSane mMo_status 0 := ⟨rfl, by decide, by decide +kernel, by decide⟩
theorem sn_mMo_top : mSane mMo_top 0 := ⟨rfl, by decide, by decide +kernel, by decide⟩
theorem sn_mMo_bottom : mSane mMo_bottom 0 := ⟨rfl, by decide, by decide +kernel, by decide⟩
theorem sn_mMo_tray : mSane mMo_tray 3 := ⟨rfl, by decide, by decide +kernel, by decide⟩
theorem sn_mMo_no : mSane mMo_no 1 := ⟨rfl, by decide, by decide +kernel, by decide⟩
theorem sn_mMo_write : mSane mMo_write 3 := ⟨rfl, by decide, by decide +kernel, by decide⟩
theorem sn_mMo_placed : mSane mMo_placed 2 := ⟨rfl, by decide, by decide +kernel, by decide⟩
theorem sn_mMo_trayed : mSane mMo_trayed 1 := ⟨rfl, by decide, by decide +kernel, by decide⟩
theorem sn_mMo_cut : mSane mMo_cut 2 := ⟨rfl, by decide, by decide +kernel, by decide⟩
theorem sn_mMo_read : mSane mMo_read 2 := ⟨rfl, by decide, by decide +kernel, by decide⟩
theorem sn_mMo_pour : mSane mMo_pour 5 := ⟨rfl, by decide, by decide +kernel, by decide⟩
theorem sn_mMo_feed : mSane mMo_feed 5 := ⟨rfl, by decide, by decide +kernel, by decide⟩
theorem sn_mMo_lay : mSane mMo_lay 1 := ⟨rfl, by decide, by decide +kernel, by decide⟩
theorem sn_mMo_fault : mSane mMo_fault 1 := ⟨rfl, by decide, by decide +kernel, by decide⟩
theorem sn_mMo_town : mSane mMo_town 1 := ⟨rfl, by decide, by decide +kernel, by decide⟩
theorem sn_mMo_opens : mSane mMo_opens 2 := ⟨rfl, by decide, by decide +kernel, by decide⟩
theorem sn_mMo_next : mSane mMo_next 0 := ⟨rfl, by decide, by decide +kernel, by decide⟩
theorem sn_mMo_look2 : mSane mMo_look2 1 := ⟨rfl, by decide, by decide +kernel, by decide⟩
theorem sn_mMo_isLetter : mSane mMo_isLetter 1 := ⟨rfl, by decide, by decide +kernel, by decide⟩
theorem sn_mMo_isDigit : mSane mMo_isDigit 1 := ⟨rfl, by decide, by decide +kernel, by decide⟩
theorem sn_mMo_isSignByte : mSane mMo_isSignByte 1 := ⟨rfl, by decide, by decide +kernel, by decide⟩
theorem sn_mMo_isPerson : mSane mMo_isPerson 0 := ⟨rfl, by decide, by decide +kernel, by decide⟩
theorem sn_mMo_spelled : mSane mMo_spelled 6 := ⟨rfl, by decide, by decide +kernel, by decide⟩
theorem sn_mMo_isWord : mSane mMo_isWord 1 := ⟨rfl, by decide, by decide +kernel, by decide⟩
theorem sn_mMo_readPerson : mSane mMo_readPerson 0 := ⟨rfl, by decide, by decide +kernel, by decide⟩
theorem sn_mMo_fail : mSane mMo_fail 2 := ⟨rfl, by decide, by decide +kernel, by decide⟩
theorem sn_mMo_readNew : mSane mMo_readNew 1 := ⟨rfl, by decide, by decide +kernel, by decide⟩
theorem sn_mMo_isName : mSane mMo_isName 0 := ⟨rfl, by decide, by decide +kernel, by decide⟩
theorem sn_mMo_isKept : mSane mMo_isKept 0 := ⟨rfl, by decide, by decide +kernel, by decide⟩
theorem sn_mMo_isPurse : mSane mMo_isPurse 0 := ⟨rfl, by decide, by decide +kernel, by decide⟩
theorem sn_mMo_isOven : mSane mMo_isOven 0 := ⟨rfl, by decide, by decide +kernel, by decide⟩
theorem sn_mMo_isRain : mSane mMo_isRain 0 := ⟨rfl, by decide, by decide +kernel, by decide⟩
theorem sn_mMo_isLoaf : mSane mMo_isLoaf 0 := ⟨rfl, by decide, by decide +kernel, by decide⟩
theorem sn_mMo_isBy : mSane mMo_isBy 0 := ⟨rfl, by decide, by decide +kernel, by decide⟩
theorem sn_mMo_isInWord : mSane mMo_isInWord 0 := ⟨rfl, by decide, by decide +kernel, by decide⟩
theorem sn_mMo_isOn : mSane mMo_isOn 0 := ⟨rfl, by decide, by decide +kernel, by decide⟩
theorem sn_mMo_isSlices : mSane mMo_isSlices 0 := ⟨rfl, by decide, by decide +kernel, by decide⟩
theorem sn_mMo_isFlour : mSane mMo_isFlour 0 := ⟨rfl, by decide, by decide +kernel, by decide⟩
theorem sn_mMo_isOf : mSane mMo_isOf 0 := ⟨rfl, by decide, by decide +kernel, by decide⟩
theorem sn_mMo_isFrom : mSane mMo_isFrom 0 := ⟨rfl, by decide, by decide +kernel, by decide⟩
theorem sn_mMo_isTo : mSane mMo_isTo 0 := ⟨rfl, by decide, by decide +kernel, by decide⟩
theorem sn_mMo_isFor : mSane mMo_isFor 0 := ⟨rfl, by decide, by decide +kernel, by decide⟩
theorem sn_mMo_stepWord : mSane mMo_stepWord 0 := ⟨rfl, by decide, by decide +kernel, by decide⟩
theorem sn_mMo_isPromise : mSane mMo_isPromise 0 := ⟨rfl, by decide, by decide +kernel, by decide⟩
theorem sn_mMo_testWord : mSane mMo_testWord 0 := ⟨rfl, by decide, by decide +kernel, by decide⟩
theorem sn_mMo_isEnd : mSane mMo_isEnd 0 := ⟨rfl, by decide, by decide +kernel, by decide⟩
theorem sn_mMo_wrong : mSane mMo_wrong 0 := ⟨rfl, by decide, by decide +kernel, by decide⟩
theorem sn_mMo_personNamed : mSane mMo_personNamed 1 := ⟨rfl, by decide, by decide +kernel, by decide⟩
theorem sn_mMo_named : mSane mMo_named 3 := ⟨rfl, by decide, by decide +kernel, by decide⟩
theorem sn_mMo_ovenNamed : mSane mMo_ovenNamed 1 := ⟨rfl, by decide, by decide +kernel, by decide⟩
theorem sn_mMo_loafNamed : mSane mMo_loafNamed 1 := ⟨rfl, by decide, by decide +kernel, by decide⟩
theorem sn_mMo_count : mSane mMo_count 2 := ⟨rfl, by decide, by decide +kernel, by decide⟩
theorem sn_mMo_isIn : mSane mMo_isIn 3 := ⟨rfl, by decide, by decide +kernel, by decide⟩
theorem sn_mMo_readOven : mSane mMo_readOven 0 := ⟨rfl, by decide, by decide +kernel, by decide⟩
theorem sn_mMo_readLoaf : mSane mMo_readLoaf 0 := ⟨rfl, by decide, by decide +kernel, by decide⟩
theorem sn_mMo_must : mSane mMo_must 1 := ⟨rfl, by decide, by decide +kernel, by decide⟩
theorem sn_mMo_readTold : mSane mMo_readTold 2 := ⟨rfl, by decide, by decide +kernel, by decide⟩
theorem sn_mMo_told : mSane mMo_told 2 := ⟨rfl, by decide, by decide +kernel, by decide⟩
theorem sn_mMo_readPromise : mSane mMo_readPromise 0 := ⟨rfl, by decide, by decide +kernel, by decide⟩
theorem sn_mMo_readPart : mSane mMo_readPart 2 := ⟨rfl, by decide, by decide +kernel, by decide⟩
theorem sn_mMo_isSign : mSane mMo_isSign 1 := ⟨rfl, by decide, by decide +kernel, by decide⟩
theorem sn_mMo_isWell : mSane mMo_isWell 0 := ⟨rfl, by decide, by decide +kernel, by decide⟩
theorem sn_mMo_copy : mSane mMo_copy 2 := ⟨rfl, by decide, by decide +kernel, by decide⟩
theorem sn_mMo_days : mSane mMo_days 1 := ⟨rfl, by decide, by decide +kernel, by decide⟩
theorem sn_mMo_readStep : mSane mMo_readStep 1 := ⟨rfl, by decide, by decide +kernel, by decide⟩
theorem sn_mMo_readRest : mSane mMo_readRest 1 := ⟨rfl, by decide, by decide +kernel, by decide⟩
theorem sn_mMo_readTest : mSane mMo_readTest 1 := ⟨rfl, by decide, by decide +kernel, by decide⟩
theorem sn_mMo_many : mSane mMo_many 1 := ⟨rfl, by decide, by decide +kernel, by decide⟩
theorem sn_mMo_bakedSet : mSane mMo_bakedSet 0 := ⟨rfl, by decide, by decide +kernel, by decide⟩
theorem sn_mMo_isBaked : mSane mMo_isBaked 1 := ⟨rfl, by decide, by decide +kernel, by decide⟩
theorem sn_mMo_refuse : mSane mMo_refuse 1 := ⟨rfl, by decide, by decide +kernel, by decide⟩
theorem sn_mMo_person : mSane mMo_person 2 := ⟨rfl, by decide, by decide +kernel, by decide⟩
theorem sn_mMo_isPersonAt : mSane mMo_isPersonAt 1 := ⟨rfl, by decide, by decide +kernel, by decide⟩
theorem sn_mMo_loaf : mSane mMo_loaf 2 := ⟨rfl, by decide, by decide +kernel, by decide⟩
theorem sn_mMo_isLoafAt : mSane mMo_isLoafAt 1 := ⟨rfl, by decide, by decide +kernel, by decide⟩
theorem sn_mMo_isPaper : mSane mMo_isPaper 1 := ⟨rfl, by decide, by decide +kernel, by decide⟩
theorem sn_mMo_promise : mSane mMo_promise 2 := ⟨rfl, by decide, by decide +kernel, by decide⟩
theorem sn_mMo_isPromiseAt : mSane mMo_isPromiseAt 1 := ⟨rfl, by decide, by decide +kernel, by decide⟩
theorem sn_mMo_part : mSane mMo_part 1 := ⟨rfl, by decide, by decide +kernel, by decide⟩
theorem sn_mMo_holds : mSane mMo_holds 2 := ⟨rfl, by decide, by decide +kernel, by decide⟩
theorem sn_mMo_holdsOf : mSane mMo_holdsOf 2 := ⟨rfl, by decide, by decide +kernel, by decide⟩
theorem sn_mMo_isOfLoaf : mSane mMo_isOfLoaf 2 := ⟨rfl, by decide, by decide +kernel, by decide⟩
theorem sn_mMo_isMade : mSane mMo_isMade 1 := ⟨rfl, by decide, by decide +kernel, by decide⟩
theorem sn_mMo_deep : mSane mMo_deep 1 := ⟨rfl, by decide, by decide +kernel, by decide⟩
theorem sn_mMo_deepens : mSane mMo_deepens 0 := ⟨rfl, by decide, by decide +kernel, by decide⟩
theorem sn_mMo_depth : mSane mMo_depth 1 := ⟨rfl, by decide, by decide +kernel, by decide⟩
theorem sn_mMo_first : mSane mMo_first 3 := ⟨rfl, by decide, by decide +kernel, by decide⟩
theorem sn_mMo_turnOf : mSane mMo_turnOf 2 := ⟨rfl, by decide, by decide +kernel, by decide⟩
theorem sn_mMo_line : mSane mMo_line 2 := ⟨rfl, by decide, by decide +kernel, by decide⟩
theorem sn_mMo_lines : mSane mMo_lines 1 := ⟨rfl, by decide, by decide +kernel, by decide⟩
theorem sn_mMo_whose : mSane mMo_whose 3 := ⟨rfl, by decide, by decide +kernel, by decide⟩
theorem sn_mMo_deals : mSane mMo_deals 2 := ⟨rfl, by decide, by decide +kernel, by decide⟩
theorem sn_mMo_comes : mSane mMo_comes 2 := ⟨rfl, by decide, by decide +kernel, by decide⟩
theorem sn_mMo_gets : mSane mMo_gets 3 := ⟨rfl, by decide, by decide +kernel, by decide⟩
theorem sn_mMo_getsOf : mSane mMo_getsOf 3 := ⟨rfl, by decide, by decide +kernel, by decide⟩
theorem sn_mMo_shame : mSane mMo_shame 2 := ⟨rfl, by decide, by decide +kernel, by decide⟩
theorem sn_mMo_unmet : mSane mMo_unmet 2 := ⟨rfl, by decide, by decide +kernel, by decide⟩
theorem sn_mMo_owesOf : mSane mMo_owesOf 2 := ⟨rfl, by decide, by decide +kernel, by decide⟩
theorem sn_mMo_mean : mSane mMo_mean 3 := ⟨rfl, by decide, by decide +kernel, by decide⟩
theorem sn_mMo_fraction : mSane mMo_fraction 2 := ⟨rfl, by decide, by decide +kernel, by decide⟩
theorem sn_mMo_between : mSane mMo_between 2 := ⟨rfl, by decide, by decide +kernel, by decide⟩
theorem sn_mMo_owing : mSane mMo_owing 1 := ⟨rfl, by decide, by decide +kernel, by decide⟩
theorem sn_mMo_net : mSane mMo_net 1 := ⟨rfl, by decide, by decide +kernel, by decide⟩
theorem sn_mMo_netOf : mSane mMo_netOf 1 := ⟨rfl, by decide, by decide +kernel, by decide⟩
theorem sn_mMo_handOvers : mSane mMo_handOvers 0 := ⟨rfl, by decide, by decide +kernel, by decide⟩
theorem sn_mMo_has : mSane mMo_has 2 := ⟨rfl, by decide, by decide +kernel, by decide⟩
theorem sn_mMo_ring : mSane mMo_ring 0 := ⟨rfl, by decide, by decide +kernel, by decide⟩
theorem sn_mMo_goesRound : mSane mMo_goesRound 3 := ⟨rfl, by decide, by decide +kernel, by decide⟩
theorem sn_mMo_ringAt : mSane mMo_ringAt 1 := ⟨rfl, by decide, by decide +kernel, by decide⟩
theorem sn_mMo_saved : mSane mMo_saved 3 := ⟨rfl, by decide, by decide +kernel, by decide⟩
theorem sn_mMo_isOpen : mSane mMo_isOpen 1 := ⟨rfl, by decide, by decide +kernel, by decide⟩
theorem sn_mMo_faces : mSane mMo_faces 0 := ⟨rfl, by decide, by decide +kernel, by decide⟩
theorem sn_mMo_isHeld : mSane mMo_isHeld 1 := ⟨rfl, by decide, by decide +kernel, by decide⟩
theorem sn_mMo_keeps : mSane mMo_keeps 3 := ⟨rfl, by decide, by decide +kernel, by decide⟩
theorem sn_mMo_isTray : mSane mMo_isTray 1 := ⟨rfl, by decide, by decide +kernel, by decide⟩
theorem sn_mMo_numberOf : mSane mMo_numberOf 2 := ⟨rfl, by decide, by decide +kernel, by decide⟩
theorem sn_mMo_burst : mSane mMo_burst 0 := ⟨rfl, by decide, by decide +kernel, by decide⟩
theorem sn_mMo_cuts : mSane mMo_cuts 5 := ⟨rfl, by decide, by decide +kernel, by decide⟩
theorem sn_mMo_auction : mSane mMo_auction 3 := ⟨rfl, by decide, by decide +kernel, by decide⟩
theorem sn_mMo_make : mSane mMo_make 5 := ⟨rfl, by decide, by decide +kernel, by decide⟩
theorem sn_mMo_makes : mSane mMo_makes 5 := ⟨rfl, by decide, by decide +kernel, by decide⟩
theorem sn_mMo_letGo : mSane mMo_letGo 1 := ⟨rfl, by decide, by decide +kernel, by decide⟩
theorem sn_mMo_breaks : mSane mMo_breaks 1 := ⟨rfl, by decide, by decide +kernel, by decide⟩
theorem sn_mMo_bake : mSane mMo_bake 1 := ⟨rfl, by decide, by decide +kernel, by decide⟩
theorem sn_mMo_bakes : mSane mMo_bakes 1 := ⟨rfl, by decide, by decide +kernel, by decide⟩
theorem sn_mMo_isWetOven : mSane mMo_isWetOven 1 := ⟨rfl, by decide, by decide +kernel, by decide⟩
theorem sn_mMo_pass : mSane mMo_pass 1 := ⟨rfl, by decide, by decide +kernel, by decide⟩
theorem sn_mMo_eat : mSane mMo_eat 2 := ⟨rfl, by decide, by decide +kernel, by decide⟩
theorem sn_mMo_eats : mSane mMo_eats 2 := ⟨rfl, by decide, by decide +kernel, by decide⟩
theorem sn_mMo_pay : mSane mMo_pay 3 := ⟨rfl, by decide, by decide +kernel, by decide⟩
theorem sn_mMo_pays : mSane mMo_pays 3 := ⟨rfl, by decide, by decide +kernel, by decide⟩
theorem sn_mMo_live : mSane mMo_live 1 := ⟨rfl, by decide, by decide +kernel, by decide⟩
theorem sn_mMo_lives : mSane mMo_lives 1 := ⟨rfl, by decide, by decide +kernel, by decide⟩
theorem sn_mMo_doAll : mSane mMo_doAll 2 := ⟨rfl, by decide, by decide +kernel, by decide⟩
theorem sn_mMo_doOne : mSane mMo_doOne 1 := ⟨rfl, by decide, by decide +kernel, by decide⟩
theorem sn_mMo_does : mSane mMo_does 1 := ⟨rfl, by decide, by decide +kernel, by decide⟩
theorem sn_mMo_waits : mSane mMo_waits 1 := ⟨rfl, by decide, by decide +kernel, by decide⟩
theorem sn_mMo_draw : mSane mMo_draw 0 := ⟨rfl, by decide, by decide +kernel, by decide⟩
theorem sn_mMo_isSo : mSane mMo_isSo 1 := ⟨rfl, by decide, by decide +kernel, by decide⟩
theorem sn_mMo_lived : mSane mMo_lived 1 := ⟨rfl, by decide, by decide +kernel, by decide⟩
theorem sn_mMo_odds : mSane mMo_odds 4 := ⟨rfl, by decide, by decide +kernel, by decide⟩
theorem sn_mMo_mark : mSane mMo_mark 0 := ⟨rfl, by decide, by decide +kernel, by decide⟩
theorem sn_mMo_back : mSane mMo_back 0 := ⟨rfl, by decide, by decide +kernel, by decide⟩
theorem nd0_11 : mP 0 (11, .inl (0, 0)) := mP_of (own := "PaperBread$Days") [(2, 0)] rfl rfl rfl ⟨_, _, _, rfl, by decide⟩
theorem nd0_15 : mP 0 (15, .inl (0, 1)) := mP_of (own := "PaperBread$Days") [(2, 1)] rfl rfl rfl ⟨_, _, _, rfl, by decide⟩
theorem nd0_18 : mP 0 (18, .inl (0, 2)) := mP_of (own := "PaperBread$Days") [(2, 2)] rfl rfl rfl ⟨_, _, _, rfl, by decide⟩
theorem nd0_22 : mP 0 (22, .inl (0, 3)) := mP_of (own := "PaperBread$Days") [(2, 4)] rfl rfl rfl ⟨_, _, _, rfl, by decide⟩
theorem nd0_25 : mP 0 (25, .inl (0, 4)) := mP_of (own := "PaperBread$Days") [(2, 6)] rfl rfl rfl ⟨_, _, _, rfl, by decide⟩
theorem nd0_28 : mP 0 (28, .inl (0, 5)) := mP_of (own := "PaperBread$Days") [(2, 9)] rfl rfl rfl ⟨_, _, _, rfl, by decide⟩
theorem nd0_32 : mP 0 (32, .inr (.inr (.inr (.inr 0)))) := mP_of (own := "PaperBread$Days") [(4, 84), (3, 123), (3, 122), (1, 18)] rfl rfl rfl trivial
theorem nd0_40 : mP 0 (40, .inr (.inl (false, mDa_add, 2))) := mP_of (own := "PaperBread$Days") [(4, 108), (1, 13), (4, 111), (4, 109), (4, 110)] rfl rfl rfl sn_mDa_add
theorem nd0 : ∀ q ∈ mRL0, mP 0 q := List.forall_mem_cons.mpr ⟨nd0_11, List.forall_mem_cons.mpr ⟨nd0_15, List.forall_mem_cons.mpr ⟨nd0_18, List.forall_mem_cons.mpr ⟨nd0_22, List.forall_mem_cons.mpr ⟨nd0_25, List.forall_mem_cons.mpr ⟨nd0_28, List.forall_mem_cons.mpr ⟨nd0_32, List.forall_mem_cons.mpr ⟨nd0_40, fun _ h => absurd h List.not_mem_nil⟩⟩⟩⟩⟩⟩⟩⟩
theorem nd1_12 : mP 1 (12, .inl (1, 0)) := mP_of (own := "PaperBread$Living") [(2, 188)] rfl rfl rfl ⟨_, _, _, rfl, by decide⟩
theorem nd1_20 : mP 1 (20, .inl (1, 1)) := mP_of (own := "PaperBread$Living") [(2, 189)] rfl rfl rfl ⟨_, _, _, rfl, by decide⟩
theorem nd1_24 : mP 1 (24, .inl (1, 2)) := mP_of (own := "PaperBread$Living") [(2, 190)] rfl rfl rfl ⟨_, _, _, rfl, by decide⟩
theorem nd1_28 : mP 1 (28, .inl (1, 3)) := mP_of (own := "PaperBread$Living") [(2, 191)] rfl rfl rfl ⟨_, _, _, rfl, by decide⟩
theorem nd1_31 : mP 1 (31, .inl (1, 4)) := mP_of (own := "PaperBread$Living") [(2, 193)] rfl rfl rfl ⟨_, _, _, rfl, by decide⟩
theorem nd1_34 : mP 1 (34, .inl (1, 5)) := mP_of (own := "PaperBread$Living") [(2, 195)] rfl rfl rfl ⟨_, _, _, rfl, by decide⟩
theorem nd1_37 : mP 1 (37, .inl (1, 6)) := mP_of (own := "PaperBread$Living") [(2, 197)] rfl rfl rfl ⟨_, _, _, rfl, by decide⟩
theorem nd1_40 : mP 1 (40, .inl (1, 7)) := mP_of (own := "PaperBread$Living") [(2, 199)] rfl rfl rfl ⟨_, _, _, rfl, by decide⟩
theorem nd1_43 : mP 1 (43, .inl (1, 8)) := mP_of (own := "PaperBread$Living") [(2, 201)] rfl rfl rfl ⟨_, _, _, rfl, by decide⟩
theorem nd1_47 : mP 1 (47, .inr (.inr (.inl (1000000)))) := mP_of (own := "PaperBread$Living") [(5, 230)] rfl rfl rfl trivial
theorem nd1_48 : mP 1 (48, .inl (8, 2)) := mP_of (own := "PaperBread$Living") [(2, 34)] rfl rfl rfl ⟨_, _, _, rfl, by decide⟩
theorem nd1_54 : mP 1 (54, .inl (0, 3)) := mP_of (own := "PaperBread$Living") [(2, 5)] rfl rfl rfl ⟨_, _, _, rfl, by decide⟩
theorem nd1_57 : mP 1 (57, .inr (.inl (false, mLi_goOn, 2))) := mP_of (own := "PaperBread$Living") [(5, 231), (1, 16), (5, 234), (5, 233), (0, 28)] rfl rfl rfl sn_mLi_goOn
theorem nd1_61 : mP 1 (61, .inr (.inl (false, mDa_cell, 2))) := mP_of (own := "PaperBread$Living") [(5, 235), (1, 13), (5, 238), (5, 236), (5, 237)] rfl rfl rfl sn_mDa_cell
theorem nd1_67 : mP 1 (67, .inr (.inl (false, mLi_behindEnd, 2))) := mP_of (own := "PaperBread$Living") [(5, 239), (1, 16), (6, 2), (6, 1), (0, 29)] rfl rfl rfl sn_mLi_behindEnd
theorem nd1_71 : mP 1 (71, .inr (.inl (true, mLi_isTrue, 2))) := mP_of (own := "PaperBread$Living") [(6, 3), (1, 16), (6, 5), (6, 4)] rfl rfl rfl sn_mLi_isTrue
theorem nd1_75 : mP 1 (75, .inr (.inl (false, mLi_isDone, 3))) := mP_of (own := "PaperBread$Living") [(6, 12), (1, 16), (6, 15), (6, 14), (0, 30)] rfl rfl rfl sn_mLi_isDone
theorem nd1_79 : mP 1 (79, .inl (8, 16)) := mP_of (own := "PaperBread$Living") [(2, 72)] rfl rfl rfl ⟨_, _, _, rfl, by decide⟩
theorem nd1_82 : mP 1 (82, .inr (.inl (true, mLi_compares, 3))) := mP_of (own := "PaperBread$Living") [(6, 6), (1, 16), (6, 8), (6, 7)] rfl rfl rfl sn_mLi_compares
theorem nd1_86 : mP 1 (86, .inr (.inl (false, mTw_hasPerson, 1))) := mP_of (own := "PaperBread$Living") [(6, 9), (1, 10), (4, 41), (4, 39), (4, 40)] rfl rfl rfl sn_mTw_hasPerson
theorem nd1_90 : mP 1 (90, .inl (8, 4)) := mP_of (own := "PaperBread$Living") [(2, 39)] rfl rfl rfl ⟨_, _, _, rfl, by decide⟩
theorem nd1_93 : mP 1 (93, .inr (.inl (false, mTw_isBaked, 1))) := mP_of (own := "PaperBread$Living") [(6, 10), (1, 10), (4, 173), (4, 171), (4, 172)] rfl rfl rfl sn_mTw_isBaked
theorem nd1_96 : mP 1 (96, .inr (.inl (false, mTw_isWet, 1))) := mP_of (own := "PaperBread$Living") [(6, 11), (1, 10), (5, 194), (5, 192), (5, 193)] rfl rfl rfl sn_mTw_isWet
theorem nd1_99 : mP 1 (99, .inr (.inl (false, mTw_handOn, 5))) := mP_of (own := "PaperBread$Living") [(6, 16), (1, 10), (4, 53), (4, 51), (4, 52)] rfl rfl rfl sn_mTw_handOn
theorem nd1_103 : mP 1 (103, .inr (.inl (false, mTw_release, 1))) := mP_of (own := "PaperBread$Living") [(6, 17), (1, 10), (5, 175), (5, 173), (5, 174)] rfl rfl rfl sn_mTw_release
theorem nd1_106 : mP 1 (106, .inr (.inl (false, mLi_hasBaked, 2))) := mP_of (own := "PaperBread$Living") [(6, 18), (1, 16), (6, 21), (6, 20), (0, 31)] rfl rfl rfl sn_mLi_hasBaked
theorem nd1_109 : mP 1 (109, .inr (.inl (false, mLi_hasWaited, 2))) := mP_of (own := "PaperBread$Living") [(6, 26), (1, 16), (6, 29), (6, 28), (0, 32)] rfl rfl rfl sn_mLi_hasWaited
theorem nd1_112 : mP 1 (112, .inr (.inl (false, mTw_feast, 2))) := mP_of (own := "PaperBread$Living") [(6, 35), (1, 10), (5, 212), (5, 210), (5, 211)] rfl rfl rfl sn_mTw_feast
theorem nd1_115 : mP 1 (115, .inr (.inl (false, mTw_handMoney, 3))) := mP_of (own := "PaperBread$Living") [(6, 36), (1, 10), (5, 221), (5, 219), (5, 220)] rfl rfl rfl sn_mTw_handMoney
theorem nd1_118 : mP 1 (118, .inr (.inl (false, mTw_canBake, 1))) := mP_of (own := "PaperBread$Living") [(6, 22), (1, 10), (5, 185), (5, 183), (5, 184)] rfl rfl rfl sn_mTw_canBake
theorem nd1_121 : mP 1 (121, .inr (.inl (false, mTw_rainsOn, 1))) := mP_of (own := "PaperBread$Living") [(6, 23), (1, 10), (5, 190), (5, 188), (5, 189)] rfl rfl rfl sn_mTw_rainsOn
theorem nd1_124 : mP 1 (124, .inr (.inl (false, mSh_settle, 3))) := mP_of (own := "PaperBread$Living") [(6, 24), (1, 14), (5, 27), (5, 25), (5, 26)] rfl rfl rfl sn_mSh_settle
theorem nd1_128 : mP 1 (128, .inr (.inl (false, mTw_bringOut, 2))) := mP_of (own := "PaperBread$Living") [(6, 25), (1, 10), (5, 198), (5, 196), (5, 197)] rfl rfl rfl sn_mTw_bringOut
theorem nd1_132 : mP 1 (132, .inl (8, 18)) := mP_of (own := "PaperBread$Living") [(2, 77)] rfl rfl rfl ⟨_, _, _, rfl, by decide⟩
theorem nd1_135 : mP 1 (135, .inl (8, 14)) := mP_of (own := "PaperBread$Living") [(2, 65)] rfl rfl rfl ⟨_, _, _, rfl, by decide⟩
theorem nd1_138 : mP 1 (138, .inr (.inl (false, mLi_nextDraw, 0))) := mP_of (own := "PaperBread$Living") [(6, 30), (1, 16), (6, 33), (6, 32), (0, 33)] rfl rfl rfl sn_mLi_nextDraw
theorem nd1_142 : mP 1 (142, .inl (8, 6)) := mP_of (own := "PaperBread$Living") [(2, 44)] rfl rfl rfl ⟨_, _, _, rfl, by decide⟩
theorem nd1_145 : mP 1 (145, .inr (.inr (.inl (65536)))) := mP_of (own := "PaperBread$Living") [(6, 34)] rfl rfl rfl trivial
theorem nd1 : ∀ q ∈ mRL1, mP 1 q := List.forall_mem_cons.mpr ⟨nd1_12, List.forall_mem_cons.mpr ⟨nd1_20, List.forall_mem_cons.mpr ⟨nd1_24, List.forall_mem_cons.mpr ⟨nd1_28, List.forall_mem_cons.mpr ⟨nd1_31, List.forall_mem_cons.mpr ⟨nd1_34, List.forall_mem_cons.mpr ⟨nd1_37, List.forall_mem_cons.mpr ⟨nd1_40, List.forall_mem_cons.mpr ⟨nd1_43, List.forall_mem_cons.mpr ⟨nd1_47, List.forall_mem_cons.mpr ⟨nd1_48, List.forall_mem_cons.mpr ⟨nd1_54, List.forall_mem_cons.mpr ⟨nd1_57, List.forall_mem_cons.mpr ⟨nd1_61, List.forall_mem_cons.mpr ⟨nd1_67, List.forall_mem_cons.mpr ⟨nd1_71, List.forall_mem_cons.mpr ⟨nd1_75, List.forall_mem_cons.mpr ⟨nd1_79, List.forall_mem_cons.mpr ⟨nd1_82, List.forall_mem_cons.mpr ⟨nd1_86, List.forall_mem_cons.mpr ⟨nd1_90, List.forall_mem_cons.mpr ⟨nd1_93, List.forall_mem_cons.mpr ⟨nd1_96, List.forall_mem_cons.mpr ⟨nd1_99, List.forall_mem_cons.mpr ⟨nd1_103, List.forall_mem_cons.mpr ⟨nd1_106, List.forall_mem_cons.mpr ⟨nd1_109, List.forall_mem_cons.mpr ⟨nd1_112, List.forall_mem_cons.mpr ⟨nd1_115, List.forall_mem_cons.mpr ⟨nd1_118, List.forall_mem_cons.mpr ⟨nd1_121, List.forall_mem_cons.mpr ⟨nd1_124, List.forall_mem_cons.mpr ⟨nd1_128, List.forall_mem_cons.mpr ⟨nd1_132, List.forall_mem_cons.mpr ⟨nd1_135, List.forall_mem_cons.mpr ⟨nd1_138, List.forall_mem_cons.mpr ⟨nd1_142, List.forall_mem_cons.mpr ⟨nd1_145, fun _ h => absurd h List.not_mem_nil⟩⟩⟩⟩⟩⟩⟩⟩⟩⟩⟩⟩⟩⟩⟩⟩⟩⟩⟩⟩⟩⟩⟩⟩⟩⟩⟩⟩⟩⟩⟩⟩⟩⟩⟩⟩⟩⟩
theorem nd2_9 : mP 2 (9, .inl (2, 0)) := mP_of (own := "PaperBread$Names") [(1, 170)] rfl rfl rfl ⟨_, _, _, rfl, by decide⟩
theorem nd2_15 : mP 2 (15, .inr (.inl (true, mAr_filll, 2))) := mP_of (own := "PaperBread$Names") [(3, 153), (1, 3), (3, 155), (3, 154)] rfl rfl rfl sn_mAr_filll
theorem nd2_21 : mP 2 (21, .inr (.inr (.inr (.inr 0)))) := mP_of (own := "PaperBread$Names") [(4, 74), (3, 123), (3, 122), (1, 18)] rfl rfl rfl trivial
theorem nd2_27 : mP 2 (27, .inr (.inr (.inr (.inr 1)))) := mP_of (own := "PaperBread$Names") [(4, 12)] rfl rfl rfl trivial
theorem nd2 : ∀ q ∈ mRL2, mP 2 q := List.forall_mem_cons.mpr ⟨nd2_9, List.forall_mem_cons.mpr ⟨nd2_15, List.forall_mem_cons.mpr ⟨nd2_21, List.forall_mem_cons.mpr ⟨nd2_27, fun _ h => absurd h List.not_mem_nil⟩⟩⟩⟩
theorem nd3_11 : mP 3 (11, .inl (3, 0)) := mP_of (own := "PaperBread$Netting") [(2, 162)] rfl rfl rfl ⟨_, _, _, rfl, by decide⟩
theorem nd3_15 : mP 3 (15, .inl (3, 1)) := mP_of (own := "PaperBread$Netting") [(2, 163)] rfl rfl rfl ⟨_, _, _, rfl, by decide⟩
theorem nd3_18 : mP 3 (18, .inl (3, 2)) := mP_of (own := "PaperBread$Netting") [(2, 164)] rfl rfl rfl ⟨_, _, _, rfl, by decide⟩
theorem nd3_21 : mP 3 (21, .inl (3, 3)) := mP_of (own := "PaperBread$Netting") [(2, 165)] rfl rfl rfl ⟨_, _, _, rfl, by decide⟩
theorem nd3_24 : mP 3 (24, .inl (8, 13)) := mP_of (own := "PaperBread$Netting") [(2, 59)] rfl rfl rfl ⟨_, _, _, rfl, by decide⟩
theorem nd3_30 : mP 3 (30, .inl (8, 1)) := mP_of (own := "PaperBread$Netting") [(2, 29)] rfl rfl rfl ⟨_, _, _, rfl, by decide⟩
theorem nd3_34 : mP 3 (34, .inr (.inl (false, mPr_surplus, 1))) := mP_of (own := "PaperBread$Netting") [(5, 63), (1, 12), (5, 54), (5, 52), (5, 53)] rfl rfl rfl sn_mPr_surplus
theorem nd3_40 : mP 3 (40, .inr (.inr (.inr (.inr 2)))) := mP_of (own := "PaperBread$Netting") [(5, 64), (3, 168), (1, 19), (3, 169)] rfl rfl rfl trivial
theorem nd3_46 : mP 3 (46, .inr (.inl (false, mNe_measure, 1))) := mP_of (own := "PaperBread$Netting") [(5, 73), (1, 15), (5, 76), (5, 75), (0, 23)] rfl rfl rfl sn_mNe_measure
theorem nd3_50 : mP 3 (50, .inl (4, 8)) := mP_of (own := "PaperBread$Netting") [(1, 211)] rfl rfl rfl ⟨_, _, _, rfl, by decide⟩
theorem nd3_53 : mP 3 (53, .inr (.inl (false, mPr_stands, 1))) := mP_of (own := "PaperBread$Netting") [(5, 78), (1, 12), (5, 10), (5, 8), (5, 9)] rfl rfl rfl sn_mPr_stands
theorem nd3_57 : mP 3 (57, .inl (4, 3)) := mP_of (own := "PaperBread$Netting") [(1, 195)] rfl rfl rfl ⟨_, _, _, rfl, by decide⟩
theorem nd3_60 : mP 3 (60, .inl (4, 2)) := mP_of (own := "PaperBread$Netting") [(1, 190)] rfl rfl rfl ⟨_, _, _, rfl, by decide⟩
theorem nd3_63 : mP 3 (63, .inr (.inl (false, mNe_way, 2))) := mP_of (own := "PaperBread$Netting") [(5, 79), (1, 15), (5, 82), (5, 81), (0, 24)] rfl rfl rfl sn_mNe_way
theorem nd3_66 : mP 3 (66, .inr (.inl (false, mNe_nextOnWay, 4))) := mP_of (own := "PaperBread$Netting") [(5, 83), (1, 15), (5, 86), (5, 85), (0, 25)] rfl rfl rfl sn_mNe_nextOnWay
theorem nd3_70 : mP 3 (70, .inl (3, 4)) := mP_of (own := "PaperBread$Netting") [(2, 167)] rfl rfl rfl ⟨_, _, _, rfl, by decide⟩
theorem nd3_73 : mP 3 (73, .inr (.inl (true, mAr_fill, 2))) := mP_of (own := "PaperBread$Netting") [(5, 77), (1, 3), (1, 36), (1, 35)] rfl rfl rfl sn_mAr_fill
theorem nd3 : ∀ q ∈ mRL3, mP 3 q := List.forall_mem_cons.mpr ⟨nd3_11, List.forall_mem_cons.mpr ⟨nd3_15, List.forall_mem_cons.mpr ⟨nd3_18, List.forall_mem_cons.mpr ⟨nd3_21, List.forall_mem_cons.mpr ⟨nd3_24, List.forall_mem_cons.mpr ⟨nd3_30, List.forall_mem_cons.mpr ⟨nd3_34, List.forall_mem_cons.mpr ⟨nd3_40, List.forall_mem_cons.mpr ⟨nd3_46, List.forall_mem_cons.mpr ⟨nd3_50, List.forall_mem_cons.mpr ⟨nd3_53, List.forall_mem_cons.mpr ⟨nd3_57, List.forall_mem_cons.mpr ⟨nd3_60, List.forall_mem_cons.mpr ⟨nd3_63, List.forall_mem_cons.mpr ⟨nd3_66, List.forall_mem_cons.mpr ⟨nd3_70, List.forall_mem_cons.mpr ⟨nd3_73, fun _ h => absurd h List.not_mem_nil⟩⟩⟩⟩⟩⟩⟩⟩⟩⟩⟩⟩⟩⟩⟩⟩⟩
theorem nd4_9 : mP 4 (9, .inl (4, 0)) := mP_of (own := "PaperBread$Promises") [(1, 180)] rfl rfl rfl ⟨_, _, _, rfl, by decide⟩
theorem nd4_15 : mP 4 (15, .inl (4, 1)) := mP_of (own := "PaperBread$Promises") [(1, 184)] rfl rfl rfl ⟨_, _, _, rfl, by decide⟩
theorem nd4_18 : mP 4 (18, .inl (4, 2)) := mP_of (own := "PaperBread$Promises") [(1, 188)] rfl rfl rfl ⟨_, _, _, rfl, by decide⟩
theorem nd4_21 : mP 4 (21, .inl (4, 3)) := mP_of (own := "PaperBread$Promises") [(1, 193)] rfl rfl rfl ⟨_, _, _, rfl, by decide⟩
theorem nd4_24 : mP 4 (24, .inl (4, 4)) := mP_of (own := "PaperBread$Promises") [(1, 198)] rfl rfl rfl ⟨_, _, _, rfl, by decide⟩
theorem nd4_27 : mP 4 (27, .inl (4, 5)) := mP_of (own := "PaperBread$Promises") [(1, 201)] rfl rfl rfl ⟨_, _, _, rfl, by decide⟩
theorem nd4_31 : mP 4 (31, .inl (4, 6)) := mP_of (own := "PaperBread$Promises") [(1, 205)] rfl rfl rfl ⟨_, _, _, rfl, by decide⟩
theorem nd4_34 : mP 4 (34, .inl (4, 7)) := mP_of (own := "PaperBread$Promises") [(1, 207)] rfl rfl rfl ⟨_, _, _, rfl, by decide⟩
theorem nd4_37 : mP 4 (37, .inl (4, 8)) := mP_of (own := "PaperBread$Promises") [(1, 208)] rfl rfl rfl ⟨_, _, _, rfl, by decide⟩
theorem nd4_41 : mP 4 (41, .inr (.inr (.inr (.inr 0)))) := mP_of (own := "PaperBread$Promises") [(4, 79), (3, 123), (3, 122), (1, 18)] rfl rfl rfl trivial
theorem nd4_47 : mP 4 (47, .inr (.inl (false, mPr_has, 1))) := mP_of (own := "PaperBread$Promises") [(5, 11), (1, 12), (4, 181), (4, 179), (4, 180)] rfl rfl rfl sn_mPr_has
theorem nd4_51 : mP 4 (51, .inr (.inl (true, mAr_fill, 2))) := mP_of (own := "PaperBread$Promises") [(4, 205), (1, 3), (1, 36), (1, 35)] rfl rfl rfl sn_mAr_fill
theorem nd4_57 : mP 4 (57, .inr (.inr (.inr (.inr 2)))) := mP_of (own := "PaperBread$Promises") [(4, 206), (3, 168), (1, 19), (3, 169)] rfl rfl rfl trivial
theorem nd4_63 : mP 4 (63, .inr (.inl (false, mPr_stands, 1))) := mP_of (own := "PaperBread$Promises") [(5, 7), (1, 12), (5, 10), (5, 8), (5, 9)] rfl rfl rfl sn_mPr_stands
theorem nd4 : ∀ q ∈ mRL4, mP 4 q := List.forall_mem_cons.mpr ⟨nd4_9, List.forall_mem_cons.mpr ⟨nd4_15, List.forall_mem_cons.mpr ⟨nd4_18, List.forall_mem_cons.mpr ⟨nd4_21, List.forall_mem_cons.mpr ⟨nd4_24, List.forall_mem_cons.mpr ⟨nd4_27, List.forall_mem_cons.mpr ⟨nd4_31, List.forall_mem_cons.mpr ⟨nd4_34, List.forall_mem_cons.mpr ⟨nd4_37, List.forall_mem_cons.mpr ⟨nd4_41, List.forall_mem_cons.mpr ⟨nd4_47, List.forall_mem_cons.mpr ⟨nd4_51, List.forall_mem_cons.mpr ⟨nd4_57, List.forall_mem_cons.mpr ⟨nd4_63, fun _ h => absurd h List.not_mem_nil⟩⟩⟩⟩⟩⟩⟩⟩⟩⟩⟩⟩⟩⟩
theorem nd5_9 : mP 5 (9, .inl (5, 0)) := mP_of (own := "PaperBread$Share") [(2, 125)] rfl rfl rfl ⟨_, _, _, rfl, by decide⟩
theorem nd5_15 : mP 5 (15, .inl (5, 1)) := mP_of (own := "PaperBread$Share") [(2, 127)] rfl rfl rfl ⟨_, _, _, rfl, by decide⟩
theorem nd5_18 : mP 5 (18, .inl (5, 2)) := mP_of (own := "PaperBread$Share") [(2, 129)] rfl rfl rfl ⟨_, _, _, rfl, by decide⟩
theorem nd5_21 : mP 5 (21, .inl (5, 3)) := mP_of (own := "PaperBread$Share") [(2, 131)] rfl rfl rfl ⟨_, _, _, rfl, by decide⟩
theorem nd5_24 : mP 5 (24, .inl (5, 4)) := mP_of (own := "PaperBread$Share") [(2, 134)] rfl rfl rfl ⟨_, _, _, rfl, by decide⟩
theorem nd5_27 : mP 5 (27, .inl (5, 5)) := mP_of (own := "PaperBread$Share") [(2, 137)] rfl rfl rfl ⟨_, _, _, rfl, by decide⟩
theorem nd5_30 : mP 5 (30, .inr (.inl (true, mAr_fill, 2))) := mP_of (own := "PaperBread$Share") [(4, 190), (1, 3), (1, 36), (1, 35)] rfl rfl rfl sn_mAr_fill
theorem nd5_36 : mP 5 (36, .inl (5, 6)) := mP_of (own := "PaperBread$Share") [(2, 139)] rfl rfl rfl ⟨_, _, _, rfl, by decide⟩
theorem nd5_40 : mP 5 (40, .inr (.inl (false, mTw_hasLoaf, 1))) := mP_of (own := "PaperBread$Share") [(4, 191), (1, 10), (4, 164), (4, 162), (4, 163)] rfl rfl rfl sn_mTw_hasLoaf
theorem nd5_46 : mP 5 (46, .inl (8, 7)) := mP_of (own := "PaperBread$Share") [(2, 46)] rfl rfl rfl ⟨_, _, _, rfl, by decide⟩
theorem nd5_49 : mP 5 (49, .inl (8, 10)) := mP_of (own := "PaperBread$Share") [(2, 53)] rfl rfl rfl ⟨_, _, _, rfl, by decide⟩
theorem nd5_52 : mP 5 (52, .inl (8, 1)) := mP_of (own := "PaperBread$Share") [(2, 30)] rfl rfl rfl ⟨_, _, _, rfl, by decide⟩
theorem nd5_56 : mP 5 (56, .inl (4, 8)) := mP_of (own := "PaperBread$Share") [(1, 210)] rfl rfl rfl ⟨_, _, _, rfl, by decide⟩
theorem nd5_61 : mP 5 (61, .inl (4, 5)) := mP_of (own := "PaperBread$Share") [(1, 202)] rfl rfl rfl ⟨_, _, _, rfl, by decide⟩
theorem nd5_65 : mP 5 (65, .inl (4, 1)) := mP_of (own := "PaperBread$Share") [(1, 185)] rfl rfl rfl ⟨_, _, _, rfl, by decide⟩
theorem nd5_68 : mP 5 (68, .inl (4, 2)) := mP_of (own := "PaperBread$Share") [(1, 189)] rfl rfl rfl ⟨_, _, _, rfl, by decide⟩
theorem nd5_71 : mP 5 (71, .inl (4, 0)) := mP_of (own := "PaperBread$Share") [(1, 181)] rfl rfl rfl ⟨_, _, _, rfl, by decide⟩
theorem nd5_72 : mP 5 (72, .inl (4, 3)) := mP_of (own := "PaperBread$Share") [(1, 194)] rfl rfl rfl ⟨_, _, _, rfl, by decide⟩
theorem nd5_75 : mP 5 (75, .inr (.inr (.inr (.inr 3)))) := mP_of (own := "PaperBread$Share") [(4, 192), (3, 165), (1, 19), (3, 166)] rfl rfl rfl trivial
theorem nd5_81 : mP 5 (81, .inr (.inl (false, mSh_lineUp, 0))) := mP_of (own := "PaperBread$Share") [(4, 193), (1, 14), (4, 196), (4, 195), (0, 20)] rfl rfl rfl sn_mSh_lineUp
theorem nd5_84 : mP 5 (84, .inr (.inl (false, mSh_weigh, 2))) := mP_of (own := "PaperBread$Share") [(5, 28), (1, 14), (4, 189), (4, 187), (4, 188)] rfl rfl rfl sn_mSh_weigh
theorem nd5_88 : mP 5 (88, .inr (.inl (false, mTw_comesOf, 2))) := mP_of (own := "PaperBread$Share") [(5, 29), (1, 10), (4, 222), (4, 220), (4, 221)] rfl rfl rfl sn_mTw_comesOf
theorem nd5_92 : mP 5 (92, .inr (.inl (false, mSh_deal, 1))) := mP_of (own := "PaperBread$Share") [(5, 30), (1, 14), (4, 226), (4, 224), (4, 225)] rfl rfl rfl sn_mSh_deal
theorem nd5_96 : mP 5 (96, .inr (.inl (false, mTw_bakerOf, 1))) := mP_of (own := "PaperBread$Share") [(5, 31), (1, 10), (4, 238), (4, 236), (4, 237)] rfl rfl rfl sn_mTw_bakerOf
theorem nd5_100 : mP 5 (100, .inr (.inr (.inr (.inr 2)))) := mP_of (own := "PaperBread$Share") [(5, 32), (3, 168), (1, 19), (3, 169)] rfl rfl rfl trivial
theorem nd5_103 : mP 5 (103, .inr (.inl (false, mTw_hasPerson, 1))) := mP_of (own := "PaperBread$Share") [(5, 33), (1, 10), (4, 41), (4, 39), (4, 40)] rfl rfl rfl sn_mTw_hasPerson
theorem nd5_106 : mP 5 (106, .inl (8, 15)) := mP_of (own := "PaperBread$Share") [(2, 69)] rfl rfl rfl ⟨_, _, _, rfl, by decide⟩
theorem nd5_109 : mP 5 (109, .inr (.inl (false, mTw_isPaper, 1))) := mP_of (own := "PaperBread$Share") [(5, 107), (1, 10), (4, 168), (4, 166), (4, 167)] rfl rfl rfl sn_mTw_isPaper
theorem nd5_112 : mP 5 (112, .inr (.inl (false, mTw_isBaked, 1))) := mP_of (own := "PaperBread$Share") [(5, 108), (1, 10), (4, 173), (4, 171), (4, 172)] rfl rfl rfl sn_mTw_isBaked
theorem nd5_115 : mP 5 (115, .inr (.inl (false, mSh_gathered, 1))) := mP_of (own := "PaperBread$Share") [(5, 109), (1, 14), (5, 112), (5, 111), (0, 26)] rfl rfl rfl sn_mSh_gathered
theorem nd5_118 : mP 5 (118, .inr (.inl (false, mTw_flourOf, 1))) := mP_of (own := "PaperBread$Share") [(5, 113), (1, 10), (5, 116), (5, 114), (5, 115)] rfl rfl rfl sn_mTw_flourOf
theorem nd5 : ∀ q ∈ mRL5, mP 5 q := List.forall_mem_cons.mpr ⟨nd5_9, List.forall_mem_cons.mpr ⟨nd5_15, List.forall_mem_cons.mpr ⟨nd5_18, List.forall_mem_cons.mpr ⟨nd5_21, List.forall_mem_cons.mpr ⟨nd5_24, List.forall_mem_cons.mpr ⟨nd5_27, List.forall_mem_cons.mpr ⟨nd5_30, List.forall_mem_cons.mpr ⟨nd5_36, List.forall_mem_cons.mpr ⟨nd5_40, List.forall_mem_cons.mpr ⟨nd5_46, List.forall_mem_cons.mpr ⟨nd5_49, List.forall_mem_cons.mpr ⟨nd5_52, List.forall_mem_cons.mpr ⟨nd5_56, List.forall_mem_cons.mpr ⟨nd5_61, List.forall_mem_cons.mpr ⟨nd5_65, List.forall_mem_cons.mpr ⟨nd5_68, List.forall_mem_cons.mpr ⟨nd5_71, List.forall_mem_cons.mpr ⟨nd5_72, List.forall_mem_cons.mpr ⟨nd5_75, List.forall_mem_cons.mpr ⟨nd5_81, List.forall_mem_cons.mpr ⟨nd5_84, List.forall_mem_cons.mpr ⟨nd5_88, List.forall_mem_cons.mpr ⟨nd5_92, List.forall_mem_cons.mpr ⟨nd5_96, List.forall_mem_cons.mpr ⟨nd5_100, List.forall_mem_cons.mpr ⟨nd5_103, List.forall_mem_cons.mpr ⟨nd5_106, List.forall_mem_cons.mpr ⟨nd5_109, List.forall_mem_cons.mpr ⟨nd5_112, List.forall_mem_cons.mpr ⟨nd5_115, List.forall_mem_cons.mpr ⟨nd5_118, fun _ h => absurd h List.not_mem_nil⟩⟩⟩⟩⟩⟩⟩⟩⟩⟩⟩⟩⟩⟩⟩⟩⟩⟩⟩⟩⟩⟩⟩⟩⟩⟩⟩⟩⟩⟩⟩
theorem nd6_12 : mP 6 (12, .inl (6, 0)) := mP_of (own := "PaperBread$Texts") [(1, 150)] rfl rfl rfl ⟨_, _, _, rfl, by decide⟩
theorem nd6_20 : mP 6 (20, .inl (6, 1)) := mP_of (own := "PaperBread$Texts") [(1, 152)] rfl rfl rfl ⟨_, _, _, rfl, by decide⟩
theorem nd6_24 : mP 6 (24, .inr (.inl (false, mTw_clear, 0))) := mP_of (own := "PaperBread$Texts") [(3, 145), (1, 10), (3, 148), (3, 146), (3, 147)] rfl rfl rfl sn_mTw_clear
theorem nd6_29 : mP 6 (29, .inr (.inl (false, mTo_open, 1))) := mP_of (own := "PaperBread$Texts") [(3, 160), (1, 5), (3, 163), (3, 161), (3, 162)] rfl rfl rfl sn_mTo_open
theorem nd6_33 : mP 6 (33, .inr (.inl (false, mTo_goesOn, 0))) := mP_of (own := "PaperBread$Texts") [(3, 182), (1, 5), (3, 185), (3, 183), (3, 184)] rfl rfl rfl sn_mTo_goesOn
theorem nd6_37 : mP 6 (37, .inr (.inl (false, mTo_wordHere, 0))) := mP_of (own := "PaperBread$Texts") [(3, 186), (1, 5), (3, 189), (3, 187), (3, 188)] rfl rfl rfl sn_mTo_wordHere
theorem nd6_41 : mP 6 (41, .inr (.inl (false, mTe_readPerson, 1))) := mP_of (own := "PaperBread$Texts") [(3, 190), (1, 4), (3, 193), (3, 192), (0, 5)] rfl rfl rfl sn_mTe_readPerson
theorem nd6_45 : mP 6 (45, .inr (.inl (false, mTe_readOven, 1))) := mP_of (own := "PaperBread$Texts") [(4, 14), (1, 4), (4, 17), (4, 16), (0, 9)] rfl rfl rfl sn_mTe_readOven
theorem nd6_48 : mP 6 (48, .inr (.inl (false, mTe_readLoaf, 1))) := mP_of (own := "PaperBread$Texts") [(4, 22), (1, 4), (4, 25), (4, 24), (0, 10)] rfl rfl rfl sn_mTe_readLoaf
theorem nd6_51 : mP 6 (51, .inr (.inl (false, mTe_readTownPromise, 1))) := mP_of (own := "PaperBread$Texts") [(4, 42), (1, 4), (4, 45), (4, 44), (0, 11)] rfl rfl rfl sn_mTe_readTownPromise
theorem nd6_54 : mP 6 (54, .inr (.inl (false, mTo_misplaced, 0))) := mP_of (own := "PaperBread$Texts") [(4, 58), (1, 5), (3, 213), (3, 211), (3, 212)] rfl rfl rfl sn_mTo_misplaced
theorem nd6_57 : mP 6 (57, .inl (7, 9)) := mP_of (own := "PaperBread$Texts") [(1, 121)] rfl rfl rfl ⟨_, _, _, rfl, by decide⟩
theorem nd6_61 : mP 6 (61, .inr (.inl (false, mTo_blame, 1))) := mP_of (own := "PaperBread$Texts") [(3, 198), (1, 5), (3, 201), (3, 199), (3, 200)] rfl rfl rfl sn_mTo_blame
theorem nd6_64 : mP 6 (64, .inr (.inl (false, mTo_takeWord, 1))) := mP_of (own := "PaperBread$Texts") [(3, 202), (1, 5), (3, 205), (3, 203), (3, 204)] rfl rfl rfl sn_mTo_takeWord
theorem nd6_67 : mP 6 (67, .inr (.inl (false, mTo_takeSign, 1))) := mP_of (own := "PaperBread$Texts") [(4, 0), (1, 5), (4, 3), (4, 1), (4, 2)] rfl rfl rfl sn_mTo_takeSign
theorem nd6_70 : mP 6 (70, .inl (8, 13)) := mP_of (own := "PaperBread$Texts") [(2, 61)] rfl rfl rfl ⟨_, _, _, rfl, by decide⟩
theorem nd6_73 : mP 6 (73, .inr (.inl (false, mTe_beginPart, 2))) := mP_of (own := "PaperBread$Texts") [(3, 194), (1, 4), (3, 197), (3, 196), (0, 6)] rfl rfl rfl sn_mTe_beginPart
theorem nd6_77 : mP 6 (77, .inl (8, 0)) := mP_of (own := "PaperBread$Texts") [(2, 26)] rfl rfl rfl ⟨_, _, _, rfl, by decide⟩
theorem nd6_81 : mP 6 (81, .inr (.inl (false, mTo_takeNewName, 1))) := mP_of (own := "PaperBread$Texts") [(3, 215), (1, 5), (3, 218), (3, 216), (3, 217)] rfl rfl rfl sn_mTo_takeNewName
theorem nd6_85 : mP 6 (85, .inr (.inl (false, mTo_skips, 1))) := mP_of (own := "PaperBread$Texts") [(3, 228), (1, 5), (3, 231), (3, 229), (3, 230)] rfl rfl rfl sn_mTo_skips
theorem nd6_89 : mP 6 (89, .inr (.inl (false, mTo_takeNumber, 2))) := mP_of (own := "PaperBread$Texts") [(3, 232), (1, 5), (3, 235), (3, 233), (3, 234)] rfl rfl rfl sn_mTo_takeNumber
theorem nd6_93 : mP 6 (93, .inr (.inl (false, mTe_endsPart, 0))) := mP_of (own := "PaperBread$Texts") [(3, 236), (1, 4), (3, 239), (3, 238), (0, 8)] rfl rfl rfl sn_mTe_endsPart
theorem nd6_96 : mP 6 (96, .inr (.inl (false, mTw_addPerson, 2))) := mP_of (own := "PaperBread$Texts") [(4, 4), (1, 10), (4, 7), (4, 5), (4, 6)] rfl rfl rfl sn_mTw_addPerson
theorem nd6_100 : mP 6 (100, .inl (8, 14)) := mP_of (own := "PaperBread$Texts") [(2, 64)] rfl rfl rfl ⟨_, _, _, rfl, by decide⟩
theorem nd6_103 : mP 6 (103, .inr (.inl (false, mTw_addOven, 2))) := mP_of (own := "PaperBread$Texts") [(4, 18), (1, 10), (4, 21), (4, 19), (4, 20)] rfl rfl rfl sn_mTw_addOven
theorem nd6_106 : mP 6 (106, .inl (8, 15)) := mP_of (own := "PaperBread$Texts") [(2, 68)] rfl rfl rfl ⟨_, _, _, rfl, by decide⟩
theorem nd6_111 : mP 6 (111, .inr (.inl (false, mTo_takeName, 3))) := mP_of (own := "PaperBread$Texts") [(4, 26), (1, 5), (4, 29), (4, 27), (4, 28)] rfl rfl rfl sn_mTo_takeName
theorem nd6_115 : mP 6 (115, .inr (.inl (false, mTw_addLoaf, 6))) := mP_of (own := "PaperBread$Texts") [(4, 34), (1, 10), (4, 37), (4, 35), (4, 36)] rfl rfl rfl sn_mTw_addLoaf
theorem nd6_119 : mP 6 (119, .inl (8, 1)) := mP_of (own := "PaperBread$Texts") [(2, 31)] rfl rfl rfl ⟨_, _, _, rfl, by decide⟩
theorem nd6_123 : mP 6 (123, .inl (4, 8)) := mP_of (own := "PaperBread$Texts") [(1, 212)] rfl rfl rfl ⟨_, _, _, rfl, by decide⟩
theorem nd6_128 : mP 6 (128, .inr (.inl (false, mTe_readPromise, 1))) := mP_of (own := "PaperBread$Texts") [(4, 46), (1, 4), (4, 49), (4, 48), (0, 12)] rfl rfl rfl sn_mTe_readPromise
theorem nd6_132 : mP 6 (132, .inr (.inl (false, mTw_handOn, 5))) := mP_of (own := "PaperBread$Texts") [(4, 50), (1, 10), (4, 53), (4, 51), (4, 52)] rfl rfl rfl sn_mTw_handOn
theorem nd6_136 : mP 6 (136, .inr (.inl (false, mDa_clear, 0))) := mP_of (own := "PaperBread$Texts") [(4, 98), (1, 13), (3, 159), (3, 157), (3, 158)] rfl rfl rfl sn_mDa_clear
theorem nd6_137 : mP 6 (137, .inr (.inl (true, mAr_fill, 2))) := mP_of (own := "PaperBread$Texts") [(4, 99), (1, 3), (1, 36), (1, 35)] rfl rfl rfl sn_mAr_fill
theorem nd6_143 : mP 6 (143, .inr (.inl (false, mTe_readEnd, 1))) := mP_of (own := "PaperBread$Texts") [(4, 100), (1, 4), (4, 103), (4, 102), (0, 15)] rfl rfl rfl sn_mTe_readEnd
theorem nd6_147 : mP 6 (147, .inr (.inl (false, mTe_mayStepHere, 2))) := mP_of (own := "PaperBread$Texts") [(4, 112), (1, 4), (4, 115), (4, 114), (0, 16)] rfl rfl rfl sn_mTe_mayStepHere
theorem nd6_151 : mP 6 (151, .inr (.inl (false, mTe_readStep, 2))) := mP_of (own := "PaperBread$Texts") [(4, 122), (1, 4), (4, 125), (4, 124), (0, 17)] rfl rfl rfl sn_mTe_readStep
theorem nd6_155 : mP 6 (155, .inr (.inl (false, mTe_addStep, 2))) := mP_of (own := "PaperBread$Texts") [(4, 134), (1, 4), (4, 137), (4, 136), (0, 19)] rfl rfl rfl sn_mTe_addStep
theorem nd6_159 : mP 6 (159, .inl (0, 2)) := mP_of (own := "PaperBread$Texts") [(2, 3)] rfl rfl rfl ⟨_, _, _, rfl, by decide⟩
theorem nd6_162 : mP 6 (162, .inl (0, 5)) := mP_of (own := "PaperBread$Texts") [(2, 10)] rfl rfl rfl ⟨_, _, _, rfl, by decide⟩
theorem nd6_166 : mP 6 (166, .inr (.inl (false, mDa_close, 1))) := mP_of (own := "PaperBread$Texts") [(4, 104), (1, 13), (4, 107), (4, 105), (4, 106)] rfl rfl rfl sn_mDa_close
theorem nd6_170 : mP 6 (170, .inr (.inl (true, mTe_isStep, 1))) := mP_of (own := "PaperBread$Texts") [(4, 116), (1, 4), (4, 118), (4, 117)] rfl rfl rfl sn_mTe_isStep
theorem nd6_173 : mP 6 (173, .inl (0, 4)) := mP_of (own := "PaperBread$Texts") [(2, 8)] rfl rfl rfl ⟨_, _, _, rfl, by decide⟩
theorem nd6_176 : mP 6 (176, .inr (.inl (true, mTe_begins, 1))) := mP_of (own := "PaperBread$Texts") [(4, 119), (1, 4), (4, 121), (4, 120)] rfl rfl rfl sn_mTe_begins
theorem nd6_179 : mP 6 (179, .inr (.inl (false, mDa_add, 2))) := mP_of (own := "PaperBread$Texts") [(4, 138), (1, 13), (4, 111), (4, 109), (4, 110)] rfl rfl rfl sn_mDa_add
theorem nd6_183 : mP 6 (183, .inr (.inl (false, mDa_begin, 0))) := mP_of (own := "PaperBread$Texts") [(4, 139), (1, 13), (4, 142), (4, 140), (4, 141)] rfl rfl rfl sn_mDa_begin
theorem nd6_186 : mP 6 (186, .inr (.inl (false, mTe_readTest, 1))) := mP_of (own := "PaperBread$Texts") [(4, 126), (1, 4), (4, 129), (4, 128), (0, 18)] rfl rfl rfl sn_mTe_readTest
theorem nd6_189 : mP 6 (189, .inr (.inl (false, mTo_takeCompares, 0))) := mP_of (own := "PaperBread$Texts") [(4, 130), (1, 5), (4, 133), (4, 131), (4, 132)] rfl rfl rfl sn_mTo_takeCompares
theorem nd6 : ∀ q ∈ mRL6, mP 6 q := List.forall_mem_cons.mpr ⟨nd6_12, List.forall_mem_cons.mpr ⟨nd6_20, List.forall_mem_cons.mpr ⟨nd6_24, List.forall_mem_cons.mpr ⟨nd6_29, List.forall_mem_cons.mpr ⟨nd6_33, List.forall_mem_cons.mpr ⟨nd6_37, List.forall_mem_cons.mpr ⟨nd6_41, List.forall_mem_cons.mpr ⟨nd6_45, List.forall_mem_cons.mpr ⟨nd6_48, List.forall_mem_cons.mpr ⟨nd6_51, List.forall_mem_cons.mpr ⟨nd6_54, List.forall_mem_cons.mpr ⟨nd6_57, List.forall_mem_cons.mpr ⟨nd6_61, List.forall_mem_cons.mpr ⟨nd6_64, List.forall_mem_cons.mpr ⟨nd6_67, List.forall_mem_cons.mpr ⟨nd6_70, List.forall_mem_cons.mpr ⟨nd6_73, List.forall_mem_cons.mpr ⟨nd6_77, List.forall_mem_cons.mpr ⟨nd6_81, List.forall_mem_cons.mpr ⟨nd6_85, List.forall_mem_cons.mpr ⟨nd6_89, List.forall_mem_cons.mpr ⟨nd6_93, List.forall_mem_cons.mpr ⟨nd6_96, List.forall_mem_cons.mpr ⟨nd6_100, List.forall_mem_cons.mpr ⟨nd6_103, List.forall_mem_cons.mpr ⟨nd6_106, List.forall_mem_cons.mpr ⟨nd6_111, List.forall_mem_cons.mpr ⟨nd6_115, List.forall_mem_cons.mpr ⟨nd6_119, List.forall_mem_cons.mpr ⟨nd6_123, List.forall_mem_cons.mpr ⟨nd6_128, List.forall_mem_cons.mpr ⟨nd6_132, List.forall_mem_cons.mpr ⟨nd6_136, List.forall_mem_cons.mpr ⟨nd6_137, List.forall_mem_cons.mpr ⟨nd6_143, List.forall_mem_cons.mpr ⟨nd6_147, List.forall_mem_cons.mpr ⟨nd6_151, List.forall_mem_cons.mpr ⟨nd6_155, List.forall_mem_cons.mpr ⟨nd6_159, List.forall_mem_cons.mpr ⟨nd6_162, List.forall_mem_cons.mpr ⟨nd6_166, List.forall_mem_cons.mpr ⟨nd6_170, List.forall_mem_cons.mpr ⟨nd6_173, List.forall_mem_cons.mpr ⟨nd6_176, List.forall_mem_cons.mpr ⟨nd6_179, List.forall_mem_cons.mpr ⟨nd6_183, List.forall_mem_cons.mpr ⟨nd6_186, List.forall_mem_cons.mpr ⟨nd6_189, fun _ h => absurd h List.not_mem_nil⟩⟩⟩⟩⟩⟩⟩⟩⟩⟩⟩⟩⟩⟩⟩⟩⟩⟩⟩⟩⟩⟩⟩⟩⟩⟩⟩⟩⟩⟩⟩⟩⟩⟩⟩⟩⟩⟩⟩⟩⟩⟩⟩⟩⟩⟩⟩⟩
theorem nd7_9 : mP 7 (9, .inl (7, 0)) := mP_of (own := "PaperBread$Tokens") [(1, 111)] rfl rfl rfl ⟨_, _, _, rfl, by decide⟩
theorem nd7_15 : mP 7 (15, .inl (7, 1)) := mP_of (own := "PaperBread$Tokens") [(1, 112)] rfl rfl rfl ⟨_, _, _, rfl, by decide⟩
theorem nd7_31 : mP 7 (31, .inr (.inr (.inr (.inl (32))))) := mP_of (own := "PaperBread$Tokens") [(1, 110)] rfl rfl rfl trivial
theorem nd7_33 : mP 7 (33, .inl (7, 2)) := mP_of (own := "PaperBread$Tokens") [(1, 113)] rfl rfl rfl ⟨_, _, _, rfl, by decide⟩
theorem nd7_37 : mP 7 (37, .inr (.inl (false, mTo_hasRoomFor, 1))) := mP_of (own := "PaperBread$Tokens") [(3, 136), (1, 5), (3, 131), (3, 129), (3, 130)] rfl rfl rfl sn_mTo_hasRoomFor
theorem nd7_41 : mP 7 (41, .inr (.inr (.inr (.inr 3)))) := mP_of (own := "PaperBread$Tokens") [(3, 164), (3, 165), (1, 19), (3, 166)] rfl rfl rfl trivial
theorem nd7_47 : mP 7 (47, .inr (.inr (.inr (.inr 2)))) := mP_of (own := "PaperBread$Tokens") [(3, 167), (3, 168), (1, 19), (3, 169)] rfl rfl rfl trivial
theorem nd7_50 : mP 7 (50, .inl (7, 3)) := mP_of (own := "PaperBread$Tokens") [(1, 115)] rfl rfl rfl ⟨_, _, _, rfl, by decide⟩
theorem nd7_52 : mP 7 (52, .inl (7, 6)) := mP_of (own := "PaperBread$Tokens") [(1, 118)] rfl rfl rfl ⟨_, _, _, rfl, by decide⟩
theorem nd7_55 : mP 7 (55, .inl (7, 9)) := mP_of (own := "PaperBread$Tokens") [(1, 122)] rfl rfl rfl ⟨_, _, _, rfl, by decide⟩
theorem nd7_58 : mP 7 (58, .inl (7, 10)) := mP_of (own := "PaperBread$Tokens") [(1, 124)] rfl rfl rfl ⟨_, _, _, rfl, by decide⟩
theorem nd7_61 : mP 7 (61, .inr (.inl (false, mTo_advance, 0))) := mP_of (own := "PaperBread$Tokens") [(3, 170), (1, 5), (3, 173), (3, 171), (3, 172)] rfl rfl rfl sn_mTo_advance
theorem nd7_64 : mP 7 (64, .inl (7, 5)) := mP_of (own := "PaperBread$Tokens") [(1, 117)] rfl rfl rfl ⟨_, _, _, rfl, by decide⟩
theorem nd7_67 : mP 7 (67, .inl (7, 8)) := mP_of (own := "PaperBread$Tokens") [(1, 120)] rfl rfl rfl ⟨_, _, _, rfl, by decide⟩
theorem nd7_71 : mP 7 (71, .inl (7, 4)) := mP_of (own := "PaperBread$Tokens") [(1, 116)] rfl rfl rfl ⟨_, _, _, rfl, by decide⟩
theorem nd7_74 : mP 7 (74, .inr (.inl (false, mTo_cutWord, 0))) := mP_of (own := "PaperBread$Tokens") [(3, 174), (1, 5), (3, 177), (3, 176), (0, 3)] rfl rfl rfl sn_mTo_cutWord
theorem nd7_77 : mP 7 (77, .inr (.inl (false, mTo_cutNumber, 0))) := mP_of (own := "PaperBread$Tokens") [(3, 178), (1, 5), (3, 181), (3, 180), (0, 4)] rfl rfl rfl sn_mTo_cutNumber
theorem nd7_80 : mP 7 (80, .inl (7, 7)) := mP_of (own := "PaperBread$Tokens") [(1, 119)] rfl rfl rfl ⟨_, _, _, rfl, by decide⟩
theorem nd7_83 : mP 7 (83, .inr (.inl (false, mTo_blame, 1))) := mP_of (own := "PaperBread$Tokens") [(3, 214), (1, 5), (3, 201), (3, 199), (3, 200)] rfl rfl rfl sn_mTo_blame
theorem nd7_87 : mP 7 (87, .inr (.inl (false, mTo_isWord, 1))) := mP_of (own := "PaperBread$Tokens") [(3, 206), (1, 5), (3, 209), (3, 207), (3, 208)] rfl rfl rfl sn_mTo_isWord
theorem nd7_90 : mP 7 (90, .inr (.inl (false, mTo_misplaced, 0))) := mP_of (own := "PaperBread$Tokens") [(3, 210), (1, 5), (3, 213), (3, 211), (3, 212)] rfl rfl rfl sn_mTo_misplaced
theorem nd7_93 : mP 7 (93, .inr (.inl (false, mTo_wordHere, 0))) := mP_of (own := "PaperBread$Tokens") [(3, 223), (1, 5), (3, 189), (3, 187), (3, 188)] rfl rfl rfl sn_mTo_wordHere
theorem nd7_96 : mP 7 (96, .inr (.inl (false, mTo_seesName, 0))) := mP_of (own := "PaperBread$Tokens") [(3, 219), (1, 5), (3, 222), (3, 221), (0, 7)] rfl rfl rfl sn_mTo_seesName
theorem nd7_100 : mP 7 (100, .inr (.inl (false, mNa_isTaken, 1))) := mP_of (own := "PaperBread$Tokens") [(3, 224), (1, 11), (3, 227), (3, 225), (3, 226)] rfl rfl rfl sn_mNa_isTaken
theorem nd7_106 : mP 7 (106, .inr (.inl (false, mNa_numberOf, 2))) := mP_of (own := "PaperBread$Tokens") [(4, 30), (1, 11), (4, 33), (4, 31), (4, 32)] rfl rfl rfl sn_mNa_numberOf
theorem nd7 : ∀ q ∈ mRL7, mP 7 q := List.forall_mem_cons.mpr ⟨nd7_9, List.forall_mem_cons.mpr ⟨nd7_15, List.forall_mem_cons.mpr ⟨nd7_31, List.forall_mem_cons.mpr ⟨nd7_33, List.forall_mem_cons.mpr ⟨nd7_37, List.forall_mem_cons.mpr ⟨nd7_41, List.forall_mem_cons.mpr ⟨nd7_47, List.forall_mem_cons.mpr ⟨nd7_50, List.forall_mem_cons.mpr ⟨nd7_52, List.forall_mem_cons.mpr ⟨nd7_55, List.forall_mem_cons.mpr ⟨nd7_58, List.forall_mem_cons.mpr ⟨nd7_61, List.forall_mem_cons.mpr ⟨nd7_64, List.forall_mem_cons.mpr ⟨nd7_67, List.forall_mem_cons.mpr ⟨nd7_71, List.forall_mem_cons.mpr ⟨nd7_74, List.forall_mem_cons.mpr ⟨nd7_77, List.forall_mem_cons.mpr ⟨nd7_80, List.forall_mem_cons.mpr ⟨nd7_83, List.forall_mem_cons.mpr ⟨nd7_87, List.forall_mem_cons.mpr ⟨nd7_90, List.forall_mem_cons.mpr ⟨nd7_93, List.forall_mem_cons.mpr ⟨nd7_96, List.forall_mem_cons.mpr ⟨nd7_100, List.forall_mem_cons.mpr ⟨nd7_106, fun _ h => absurd h List.not_mem_nil⟩⟩⟩⟩⟩⟩⟩⟩⟩⟩⟩⟩⟩⟩⟩⟩⟩⟩⟩⟩⟩⟩⟩⟩⟩
theorem nd8_12 : mP 8 (12, .inl (8, 0)) := mP_of (own := "PaperBread$Town") [(2, 25)] rfl rfl rfl ⟨_, _, _, rfl, by decide⟩
theorem nd8_21 : mP 8 (21, .inl (8, 1)) := mP_of (own := "PaperBread$Town") [(2, 28)] rfl rfl rfl ⟨_, _, _, rfl, by decide⟩
theorem nd8_28 : mP 8 (28, .inl (8, 2)) := mP_of (own := "PaperBread$Town") [(2, 33)] rfl rfl rfl ⟨_, _, _, rfl, by decide⟩
theorem nd8_32 : mP 8 (32, .inl (8, 3)) := mP_of (own := "PaperBread$Town") [(2, 36)] rfl rfl rfl ⟨_, _, _, rfl, by decide⟩
theorem nd8_36 : mP 8 (36, .inl (8, 4)) := mP_of (own := "PaperBread$Town") [(2, 38)] rfl rfl rfl ⟨_, _, _, rfl, by decide⟩
theorem nd8_39 : mP 8 (39, .inl (8, 5)) := mP_of (own := "PaperBread$Town") [(2, 41)] rfl rfl rfl ⟨_, _, _, rfl, by decide⟩
theorem nd8_42 : mP 8 (42, .inl (8, 6)) := mP_of (own := "PaperBread$Town") [(2, 43)] rfl rfl rfl ⟨_, _, _, rfl, by decide⟩
theorem nd8_45 : mP 8 (45, .inl (8, 7)) := mP_of (own := "PaperBread$Town") [(2, 45)] rfl rfl rfl ⟨_, _, _, rfl, by decide⟩
theorem nd8_48 : mP 8 (48, .inl (8, 8)) := mP_of (own := "PaperBread$Town") [(2, 48)] rfl rfl rfl ⟨_, _, _, rfl, by decide⟩
theorem nd8_51 : mP 8 (51, .inl (8, 9)) := mP_of (own := "PaperBread$Town") [(2, 50)] rfl rfl rfl ⟨_, _, _, rfl, by decide⟩
theorem nd8_54 : mP 8 (54, .inl (8, 10)) := mP_of (own := "PaperBread$Town") [(2, 52)] rfl rfl rfl ⟨_, _, _, rfl, by decide⟩
theorem nd8_57 : mP 8 (57, .inl (8, 11)) := mP_of (own := "PaperBread$Town") [(2, 55)] rfl rfl rfl ⟨_, _, _, rfl, by decide⟩
theorem nd8_60 : mP 8 (60, .inl (8, 12)) := mP_of (own := "PaperBread$Town") [(2, 57)] rfl rfl rfl ⟨_, _, _, rfl, by decide⟩
theorem nd8_63 : mP 8 (63, .inr (.inl (false, mNa_clear, 0))) := mP_of (own := "PaperBread$Town") [(3, 149), (1, 11), (3, 152), (3, 150), (3, 151)] rfl rfl rfl sn_mNa_clear
theorem nd8_66 : mP 8 (66, .inl (4, 8)) := mP_of (own := "PaperBread$Town") [(1, 209)] rfl rfl rfl ⟨_, _, _, rfl, by decide⟩
theorem nd8_70 : mP 8 (70, .inr (.inl (false, mDa_clear, 0))) := mP_of (own := "PaperBread$Town") [(3, 156), (1, 13), (3, 159), (3, 157), (3, 158)] rfl rfl rfl sn_mDa_clear
theorem nd8_71 : mP 8 (71, .inl (8, 13)) := mP_of (own := "PaperBread$Town") [(2, 60)] rfl rfl rfl ⟨_, _, _, rfl, by decide⟩
theorem nd8_74 : mP 8 (74, .inl (8, 14)) := mP_of (own := "PaperBread$Town") [(2, 63)] rfl rfl rfl ⟨_, _, _, rfl, by decide⟩
theorem nd8_77 : mP 8 (77, .inl (8, 15)) := mP_of (own := "PaperBread$Town") [(2, 67)] rfl rfl rfl ⟨_, _, _, rfl, by decide⟩
theorem nd8_80 : mP 8 (80, .inl (8, 16)) := mP_of (own := "PaperBread$Town") [(2, 71)] rfl rfl rfl ⟨_, _, _, rfl, by decide⟩
theorem nd8_83 : mP 8 (83, .inl (8, 17)) := mP_of (own := "PaperBread$Town") [(2, 74)] rfl rfl rfl ⟨_, _, _, rfl, by decide⟩
theorem nd8_86 : mP 8 (86, .inl (8, 18)) := mP_of (own := "PaperBread$Town") [(2, 76)] rfl rfl rfl ⟨_, _, _, rfl, by decide⟩
theorem nd8_89 : mP 8 (89, .inr (.inl (false, mNa_copyOf, 1))) := mP_of (own := "PaperBread$Town") [(4, 70), (1, 11), (4, 73), (4, 71), (4, 72)] rfl rfl rfl sn_mNa_copyOf
theorem nd8_93 : mP 8 (93, .inr (.inl (false, mPr_copyOf, 1))) := mP_of (own := "PaperBread$Town") [(4, 75), (1, 12), (4, 78), (4, 76), (4, 77)] rfl rfl rfl sn_mPr_copyOf
theorem nd8_96 : mP 8 (96, .inr (.inl (false, mDa_copyOf, 1))) := mP_of (own := "PaperBread$Town") [(4, 80), (1, 13), (4, 83), (4, 81), (4, 82)] rfl rfl rfl sn_mDa_copyOf
theorem nd8_99 : mP 8 (99, .inr (.inr (.inr (.inr 0)))) := mP_of (own := "PaperBread$Town") [(4, 85), (3, 123), (3, 122), (1, 18)] rfl rfl rfl trivial
theorem nd8_105 : mP 8 (105, .inr (.inl (false, mNa_give, 3))) := mP_of (own := "PaperBread$Town") [(4, 8), (1, 11), (4, 11), (4, 9), (4, 10)] rfl rfl rfl sn_mNa_give
theorem nd8_109 : mP 8 (109, .inr (.inl (false, mTw_hasPerson, 1))) := mP_of (own := "PaperBread$Town") [(4, 38), (1, 10), (4, 41), (4, 39), (4, 40)] rfl rfl rfl sn_mTw_hasPerson
theorem nd8_113 : mP 8 (113, .inr (.inl (false, mTw_hasLoaf, 1))) := mP_of (own := "PaperBread$Town") [(4, 169), (1, 10), (4, 164), (4, 162), (4, 163)] rfl rfl rfl sn_mTw_hasLoaf
theorem nd8_116 : mP 8 (116, .inr (.inl (false, mPr_hasRoom, 0))) := mP_of (own := "PaperBread$Town") [(4, 54), (1, 12), (4, 57), (4, 55), (4, 56)] rfl rfl rfl sn_mPr_hasRoom
theorem nd8_120 : mP 8 (120, .inl (4, 0)) := mP_of (own := "PaperBread$Town") [(1, 182)] rfl rfl rfl ⟨_, _, _, rfl, by decide⟩
theorem nd8_121 : mP 8 (121, .inl (4, 1)) := mP_of (own := "PaperBread$Town") [(1, 186)] rfl rfl rfl ⟨_, _, _, rfl, by decide⟩
theorem nd8_124 : mP 8 (124, .inl (4, 2)) := mP_of (own := "PaperBread$Town") [(1, 191)] rfl rfl rfl ⟨_, _, _, rfl, by decide⟩
theorem nd8_127 : mP 8 (127, .inl (4, 3)) := mP_of (own := "PaperBread$Town") [(1, 196)] rfl rfl rfl ⟨_, _, _, rfl, by decide⟩
theorem nd8_130 : mP 8 (130, .inl (4, 4)) := mP_of (own := "PaperBread$Town") [(1, 199)] rfl rfl rfl ⟨_, _, _, rfl, by decide⟩
theorem nd8_133 : mP 8 (133, .inl (4, 5)) := mP_of (own := "PaperBread$Town") [(1, 203)] rfl rfl rfl ⟨_, _, _, rfl, by decide⟩
theorem nd8_137 : mP 8 (137, .inr (.inl (false, mPr_stands, 1))) := mP_of (own := "PaperBread$Town") [(5, 176), (1, 12), (5, 10), (5, 8), (5, 9)] rfl rfl rfl sn_mPr_stands
theorem nd8_140 : mP 8 (140, .inr (.inl (false, mTw_isBaked, 1))) := mP_of (own := "PaperBread$Town") [(5, 177), (1, 10), (4, 173), (4, 171), (4, 172)] rfl rfl rfl sn_mTw_isBaked
theorem nd8_143 : mP 8 (143, .inr (.inl (false, mTw_isPaper, 1))) := mP_of (own := "PaperBread$Town") [(5, 186), (1, 10), (4, 168), (4, 166), (4, 167)] rfl rfl rfl sn_mTw_isPaper
theorem nd8_146 : mP 8 (146, .inr (.inl (false, mTw_isWet, 1))) := mP_of (own := "PaperBread$Town") [(5, 191), (1, 10), (5, 194), (5, 192), (5, 193)] rfl rfl rfl sn_mTw_isWet
theorem nd8_149 : mP 8 (149, .inl (5, 3)) := mP_of (own := "PaperBread$Town") [(2, 132)] rfl rfl rfl ⟨_, _, _, rfl, by decide⟩
theorem nd8_154 : mP 8 (154, .inl (5, 4)) := mP_of (own := "PaperBread$Town") [(2, 135)] rfl rfl rfl ⟨_, _, _, rfl, by decide⟩
theorem nd8_157 : mP 8 (157, .inr (.inl (false, mTw_rainsOn, 1))) := mP_of (own := "PaperBread$Town") [(5, 199), (1, 10), (5, 190), (5, 188), (5, 189)] rfl rfl rfl sn_mTw_rainsOn
theorem nd8_160 : mP 8 (160, .inr (.inl (false, mTw_comesOf, 2))) := mP_of (own := "PaperBread$Town") [(5, 200), (1, 10), (4, 222), (4, 220), (4, 221)] rfl rfl rfl sn_mTw_comesOf
theorem nd8_164 : mP 8 (164, .inr (.inr (.inr (.inr 3)))) := mP_of (own := "PaperBread$Town") [(5, 213), (3, 165), (1, 19), (3, 166)] rfl rfl rfl trivial
theorem nd8 : ∀ q ∈ mRL8, mP 8 q := List.forall_mem_cons.mpr ⟨nd8_12, List.forall_mem_cons.mpr ⟨nd8_21, List.forall_mem_cons.mpr ⟨nd8_28, List.forall_mem_cons.mpr ⟨nd8_32, List.forall_mem_cons.mpr ⟨nd8_36, List.forall_mem_cons.mpr ⟨nd8_39, List.forall_mem_cons.mpr ⟨nd8_42, List.forall_mem_cons.mpr ⟨nd8_45, List.forall_mem_cons.mpr ⟨nd8_48, List.forall_mem_cons.mpr ⟨nd8_51, List.forall_mem_cons.mpr ⟨nd8_54, List.forall_mem_cons.mpr ⟨nd8_57, List.forall_mem_cons.mpr ⟨nd8_60, List.forall_mem_cons.mpr ⟨nd8_63, List.forall_mem_cons.mpr ⟨nd8_66, List.forall_mem_cons.mpr ⟨nd8_70, List.forall_mem_cons.mpr ⟨nd8_71, List.forall_mem_cons.mpr ⟨nd8_74, List.forall_mem_cons.mpr ⟨nd8_77, List.forall_mem_cons.mpr ⟨nd8_80, List.forall_mem_cons.mpr ⟨nd8_83, List.forall_mem_cons.mpr ⟨nd8_86, List.forall_mem_cons.mpr ⟨nd8_89, List.forall_mem_cons.mpr ⟨nd8_93, List.forall_mem_cons.mpr ⟨nd8_96, List.forall_mem_cons.mpr ⟨nd8_99, List.forall_mem_cons.mpr ⟨nd8_105, List.forall_mem_cons.mpr ⟨nd8_109, List.forall_mem_cons.mpr ⟨nd8_113, List.forall_mem_cons.mpr ⟨nd8_116, List.forall_mem_cons.mpr ⟨nd8_120, List.forall_mem_cons.mpr ⟨nd8_121, List.forall_mem_cons.mpr ⟨nd8_124, List.forall_mem_cons.mpr ⟨nd8_127, List.forall_mem_cons.mpr ⟨nd8_130, List.forall_mem_cons.mpr ⟨nd8_133, List.forall_mem_cons.mpr ⟨nd8_137, List.forall_mem_cons.mpr ⟨nd8_140, List.forall_mem_cons.mpr ⟨nd8_143, List.forall_mem_cons.mpr ⟨nd8_146, List.forall_mem_cons.mpr ⟨nd8_149, List.forall_mem_cons.mpr ⟨nd8_154, List.forall_mem_cons.mpr ⟨nd8_157, List.forall_mem_cons.mpr ⟨nd8_160, List.forall_mem_cons.mpr ⟨nd8_164, fun _ h => absurd h List.not_mem_nil⟩⟩⟩⟩⟩⟩⟩⟩⟩⟩⟩⟩⟩⟩⟩⟩⟩⟩⟩⟩⟩⟩⟩⟩⟩⟩⟩⟩⟩⟩⟩⟩⟩⟩⟩⟩⟩⟩⟩⟩⟩⟩⟩⟩⟩
theorem nd9_11 : mP 9 (11, .inl (9, 0)) := mP_of (own := "PaperBread$Trays") [(1, 37)] rfl rfl rfl ⟨_, _, _, rfl, by decide⟩
theorem nd9_15 : mP 9 (15, .inl (9, 1)) := mP_of (own := "PaperBread$Trays") [(1, 38)] rfl rfl rfl ⟨_, _, _, rfl, by decide⟩
theorem nd9_19 : mP 9 (19, .inl (9, 2)) := mP_of (own := "PaperBread$Trays") [(1, 39)] rfl rfl rfl ⟨_, _, _, rfl, by decide⟩
theorem nd9_22 : mP 9 (22, .inr (.inl (true, mAr_fill, 2))) := mP_of (own := "PaperBread$Trays") [(1, 34), (1, 3), (1, 36), (1, 35)] rfl rfl rfl sn_mAr_fill
theorem nd9_28 : mP 9 (28, .inr (.inl (false, mTr_exists, 1))) := mP_of (own := "PaperBread$Trays") [(3, 63), (1, 2), (3, 50), (3, 48), (3, 49)] rfl rfl rfl sn_mTr_exists
theorem nd9_32 : mP 9 (32, .inr (.inl (false, mTr_isMissing, 1))) := mP_of (own := "PaperBread$Trays") [(3, 76), (1, 2), (3, 79), (3, 77), (3, 78)] rfl rfl rfl sn_mTr_isMissing
theorem nd9_35 : mP 9 (35, .inr (.inl (false, mTr_lengthOf, 1))) := mP_of (own := "PaperBread$Trays") [(3, 84), (1, 2), (3, 87), (3, 85), (3, 86)] rfl rfl rfl sn_mTr_lengthOf
theorem nd9_39 : mP 9 (39, .inr (.inl (false, mTr_hasRow, 3))) := mP_of (own := "PaperBread$Trays") [(3, 80), (1, 2), (3, 83), (3, 81), (3, 82)] rfl rfl rfl sn_mTr_hasRow
theorem nd9_43 : mP 9 (43, .inr (.inl (true, mTr_cutTo, 2))) := mP_of (own := "PaperBread$Trays") [(3, 92), (1, 2), (3, 94), (3, 93)] rfl rfl rfl sn_mTr_cutTo
theorem nd9_47 : mP 9 (47, .inr (.inr (.inr (.inr 0)))) := mP_of (own := "PaperBread$Trays") [(3, 121), (3, 123), (3, 122), (1, 18)] rfl rfl rfl trivial
theorem nd9_53 : mP 9 (53, .inr (.inl (false, mTr_at, 2))) := mP_of (own := "PaperBread$Trays") [(5, 136), (1, 2), (3, 106), (3, 104), (3, 105)] rfl rfl rfl sn_mTr_at
theorem nd9 : ∀ q ∈ mRL9, mP 9 q := List.forall_mem_cons.mpr ⟨nd9_11, List.forall_mem_cons.mpr ⟨nd9_15, List.forall_mem_cons.mpr ⟨nd9_19, List.forall_mem_cons.mpr ⟨nd9_22, List.forall_mem_cons.mpr ⟨nd9_28, List.forall_mem_cons.mpr ⟨nd9_32, List.forall_mem_cons.mpr ⟨nd9_35, List.forall_mem_cons.mpr ⟨nd9_39, List.forall_mem_cons.mpr ⟨nd9_43, List.forall_mem_cons.mpr ⟨nd9_47, List.forall_mem_cons.mpr ⟨nd9_53, fun _ h => absurd h List.not_mem_nil⟩⟩⟩⟩⟩⟩⟩⟩⟩⟩⟩
theorem nd10_10 : mP 10 (10, .inl (10, 0)) := mP_of (own := "PaperBread") [(2, 222)] rfl rfl rfl ⟨_, _, _, rfl, by decide⟩
theorem nd10_19 : mP 10 (19, .inl (10, 1)) := mP_of (own := "PaperBread") [(2, 223)] rfl rfl rfl ⟨_, _, _, rfl, by decide⟩
theorem nd10_26 : mP 10 (26, .inl (10, 2)) := mP_of (own := "PaperBread") [(2, 224)] rfl rfl rfl ⟨_, _, _, rfl, by decide⟩
theorem nd10_30 : mP 10 (30, .inl (10, 3)) := mP_of (own := "PaperBread") [(2, 225)] rfl rfl rfl ⟨_, _, _, rfl, by decide⟩
theorem nd10_33 : mP 10 (33, .inl (10, 4)) := mP_of (own := "PaperBread") [(2, 226)] rfl rfl rfl ⟨_, _, _, rfl, by decide⟩
theorem nd10_40 : mP 10 (40, .inl (10, 5)) := mP_of (own := "PaperBread") [(2, 227)] rfl rfl rfl ⟨_, _, _, rfl, by decide⟩
theorem nd10_47 : mP 10 (47, .inl (10, 6)) := mP_of (own := "PaperBread") [(2, 228)] rfl rfl rfl ⟨_, _, _, rfl, by decide⟩
theorem nd10_54 : mP 10 (54, .inl (10, 7)) := mP_of (own := "PaperBread") [(2, 229)] rfl rfl rfl ⟨_, _, _, rfl, by decide⟩
theorem nd10_58 : mP 10 (58, .inl (10, 8)) := mP_of (own := "PaperBread") [(2, 230)] rfl rfl rfl ⟨_, _, _, rfl, by decide⟩
theorem nd10_61 : mP 10 (61, .inl (10, 12)) := mP_of (own := "PaperBread") [(2, 234)] rfl rfl rfl ⟨_, _, _, rfl, by decide⟩
theorem nd10_65 : mP 10 (65, .inl (10, 13)) := mP_of (own := "PaperBread") [(2, 235)] rfl rfl rfl ⟨_, _, _, rfl, by decide⟩
theorem nd10_69 : mP 10 (69, .inl (10, 14)) := mP_of (own := "PaperBread") [(2, 236)] rfl rfl rfl ⟨_, _, _, rfl, by decide⟩
theorem nd10_72 : mP 10 (72, .inl (10, 10)) := mP_of (own := "PaperBread") [(2, 232)] rfl rfl rfl ⟨_, _, _, rfl, by decide⟩
theorem nd10_75 : mP 10 (75, .inl (10, 11)) := mP_of (own := "PaperBread") [(2, 233)] rfl rfl rfl ⟨_, _, _, rfl, by decide⟩
theorem nd10_78 : mP 10 (78, .inr (.inl (false, mTr_exists, 1))) := mP_of (own := "PaperBread") [(3, 47), (1, 2), (3, 50), (3, 48), (3, 49)] rfl rfl rfl sn_mTr_exists
theorem nd10_82 : mP 10 (82, .inr (.inl (false, mTr_isSort, 1))) := mP_of (own := "PaperBread") [(3, 51), (1, 2), (3, 54), (3, 52), (3, 53)] rfl rfl rfl sn_mTr_isSort
theorem nd10_85 : mP 10 (85, .inr (.inl (false, mPb_deny, 1))) := mP_of (own := "PaperBread") [(3, 55), (1, 1), (3, 58), (3, 57), (0, 0)] rfl rfl rfl sn_mPb_deny
theorem nd10_88 : mP 10 (88, .inr (.inl (false, mTr_lay, 3))) := mP_of (own := "PaperBread") [(3, 59), (1, 2), (3, 62), (3, 60), (3, 61)] rfl rfl rfl sn_mTr_lay
theorem nd10_92 : mP 10 (92, .inr (.inl (false, mPb_grant, 0))) := mP_of (own := "PaperBread") [(3, 64), (1, 1), (3, 67), (3, 66), (0, 1)] rfl rfl rfl sn_mPb_grant
theorem nd10_96 : mP 10 (96, .inr (.inl (false, mTr_whyNot, 2))) := mP_of (own := "PaperBread") [(3, 72), (1, 2), (3, 75), (3, 73), (3, 74)] rfl rfl rfl sn_mTr_whyNot
theorem nd10_100 : mP 10 (100, .inr (.inl (false, mTr_put, 3))) := mP_of (own := "PaperBread") [(3, 88), (1, 2), (3, 91), (3, 89), (3, 90)] rfl rfl rfl sn_mTr_put
theorem nd10_104 : mP 10 (104, .inr (.inl (false, mPb_refuse, 1))) := mP_of (own := "PaperBread") [(3, 99), (1, 1), (3, 102), (3, 101), (0, 2)] rfl rfl rfl sn_mPb_refuse
theorem nd10_108 : mP 10 (108, .inr (.inl (false, mTr_at, 2))) := mP_of (own := "PaperBread") [(3, 103), (1, 2), (3, 106), (3, 104), (3, 105)] rfl rfl rfl sn_mTr_at
theorem nd10_112 : mP 10 (112, .inr (.inl (false, mTr_isMissing, 1))) := mP_of (own := "PaperBread") [(3, 111), (1, 2), (3, 79), (3, 77), (3, 78)] rfl rfl rfl sn_mTr_isMissing
theorem nd10_115 : mP 10 (115, .inr (.inl (false, mTr_alike, 2))) := mP_of (own := "PaperBread") [(3, 112), (1, 2), (3, 115), (3, 113), (3, 114)] rfl rfl rfl sn_mTr_alike
theorem nd10_119 : mP 10 (119, .inr (.inl (false, mTr_hasRow, 3))) := mP_of (own := "PaperBread") [(3, 116), (1, 2), (3, 83), (3, 81), (3, 82)] rfl rfl rfl sn_mTr_hasRow
theorem nd10_123 : mP 10 (123, .inr (.inl (false, mTr_move, 5))) := mP_of (own := "PaperBread") [(3, 117), (1, 2), (3, 120), (3, 118), (3, 119)] rfl rfl rfl sn_mTr_move
theorem nd10_127 : mP 10 (127, .inl (6, 0)) := mP_of (own := "PaperBread") [(1, 151)] rfl rfl rfl ⟨_, _, _, rfl, by decide⟩
theorem nd10_131 : mP 10 (131, .inr (.inl (false, mTo_hasRoomFor, 1))) := mP_of (own := "PaperBread") [(3, 128), (1, 5), (3, 131), (3, 129), (3, 130)] rfl rfl rfl sn_mTo_hasRoomFor
theorem nd10_136 : mP 10 (136, .inr (.inl (false, mTo_append, 1))) := mP_of (own := "PaperBread") [(3, 132), (1, 5), (3, 135), (3, 133), (3, 134)] rfl rfl rfl sn_mTo_append
theorem nd10_140 : mP 10 (140, .inl (7, 2)) := mP_of (own := "PaperBread") [(1, 114)] rfl rfl rfl ⟨_, _, _, rfl, by decide⟩
theorem nd10_143 : mP 10 (143, .inr (.inl (false, mTe_readTown, 2))) := mP_of (own := "PaperBread") [(3, 141), (1, 4), (3, 144), (3, 142), (3, 143)] rfl rfl rfl sn_mTe_readTown
theorem nd10_147 : mP 10 (147, .inr (.inl (false, mPb_keepFault, 0))) := mP_of (own := "PaperBread") [(4, 59), (1, 1), (4, 62), (4, 61), (0, 13)] rfl rfl rfl sn_mPb_keepFault
theorem nd10_150 : mP 10 (150, .inr (.inl (true, mPb_carry, 2))) := mP_of (own := "PaperBread") [(4, 63), (1, 1), (4, 65), (4, 64)] rfl rfl rfl sn_mPb_carry
theorem nd10_154 : mP 10 (154, .inl (8, 15)) := mP_of (own := "PaperBread") [(2, 70)] rfl rfl rfl ⟨_, _, _, rfl, by decide⟩
theorem nd10_157 : mP 10 (157, .inr (.inl (false, mPb_answer, 1))) := mP_of (own := "PaperBread") [(4, 86), (1, 1), (4, 89), (4, 88), (0, 14)] rfl rfl rfl sn_mPb_answer
theorem nd10_160 : mP 10 (160, .inl (8, 0)) := mP_of (own := "PaperBread") [(2, 27)] rfl rfl rfl ⟨_, _, _, rfl, by decide⟩
theorem nd10_164 : mP 10 (164, .inl (8, 2)) := mP_of (own := "PaperBread") [(2, 35)] rfl rfl rfl ⟨_, _, _, rfl, by decide⟩
theorem nd10_168 : mP 10 (168, .inr (.inl (false, mTe_readDays, 3))) := mP_of (own := "PaperBread") [(4, 94), (1, 4), (4, 97), (4, 95), (4, 96)] rfl rfl rfl sn_mTe_readDays
theorem nd10_172 : mP 10 (172, .inr (.inl (false, mDa_copyOf, 1))) := mP_of (own := "PaperBread") [(4, 143), (1, 13), (4, 83), (4, 81), (4, 82)] rfl rfl rfl sn_mDa_copyOf
theorem nd10_178 : mP 10 (178, .inl (0, 4)) := mP_of (own := "PaperBread") [(2, 7)] rfl rfl rfl ⟨_, _, _, rfl, by decide⟩
theorem nd10_181 : mP 10 (181, .inl (8, 13)) := mP_of (own := "PaperBread") [(2, 62)] rfl rfl rfl ⟨_, _, _, rfl, by decide⟩
theorem nd10_184 : mP 10 (184, .inl (8, 14)) := mP_of (own := "PaperBread") [(2, 66)] rfl rfl rfl ⟨_, _, _, rfl, by decide⟩
theorem nd10_187 : mP 10 (187, .inl (8, 1)) := mP_of (own := "PaperBread") [(2, 32)] rfl rfl rfl ⟨_, _, _, rfl, by decide⟩
theorem nd10_191 : mP 10 (191, .inl (4, 8)) := mP_of (own := "PaperBread") [(1, 213)] rfl rfl rfl ⟨_, _, _, rfl, by decide⟩
theorem nd10_196 : mP 10 (196, .inl (8, 16)) := mP_of (own := "PaperBread") [(2, 73)] rfl rfl rfl ⟨_, _, _, rfl, by decide⟩
theorem nd10_199 : mP 10 (199, .inl (8, 17)) := mP_of (own := "PaperBread") [(2, 75)] rfl rfl rfl ⟨_, _, _, rfl, by decide⟩
theorem nd10_202 : mP 10 (202, .inl (8, 18)) := mP_of (own := "PaperBread") [(2, 78)] rfl rfl rfl ⟨_, _, _, rfl, by decide⟩
theorem nd10_205 : mP 10 (205, .inr (.inl (false, mTw_hasPerson, 1))) := mP_of (own := "PaperBread") [(4, 156), (1, 10), (4, 41), (4, 39), (4, 40)] rfl rfl rfl sn_mTw_hasPerson
theorem nd10_208 : mP 10 (208, .inl (8, 3)) := mP_of (own := "PaperBread") [(2, 37)] rfl rfl rfl ⟨_, _, _, rfl, by decide⟩
theorem nd10_212 : mP 10 (212, .inl (8, 4)) := mP_of (own := "PaperBread") [(2, 40)] rfl rfl rfl ⟨_, _, _, rfl, by decide⟩
theorem nd10_215 : mP 10 (215, .inl (8, 5)) := mP_of (own := "PaperBread") [(2, 42)] rfl rfl rfl ⟨_, _, _, rfl, by decide⟩
theorem nd10_218 : mP 10 (218, .inr (.inl (false, mTw_hasLoaf, 1))) := mP_of (own := "PaperBread") [(4, 161), (1, 10), (4, 164), (4, 162), (4, 163)] rfl rfl rfl sn_mTw_hasLoaf
theorem nd10_221 : mP 10 (221, .inl (8, 7)) := mP_of (own := "PaperBread") [(2, 47)] rfl rfl rfl ⟨_, _, _, rfl, by decide⟩
theorem nd10_224 : mP 10 (224, .inr (.inl (false, mTw_isPaper, 1))) := mP_of (own := "PaperBread") [(4, 165), (1, 10), (4, 168), (4, 166), (4, 167)] rfl rfl rfl sn_mTw_isPaper
theorem nd10_227 : mP 10 (227, .inl (8, 8)) := mP_of (own := "PaperBread") [(2, 49)] rfl rfl rfl ⟨_, _, _, rfl, by decide⟩
theorem nd10_230 : mP 10 (230, .inl (8, 9)) := mP_of (own := "PaperBread") [(2, 51)] rfl rfl rfl ⟨_, _, _, rfl, by decide⟩
theorem nd10_233 : mP 10 (233, .inl (8, 10)) := mP_of (own := "PaperBread") [(2, 54)] rfl rfl rfl ⟨_, _, _, rfl, by decide⟩
theorem nd10_236 : mP 10 (236, .inl (8, 11)) := mP_of (own := "PaperBread") [(2, 56)] rfl rfl rfl ⟨_, _, _, rfl, by decide⟩
theorem nd10_239 : mP 10 (239, .inr (.inl (false, mTw_isBaked, 1))) := mP_of (own := "PaperBread") [(4, 170), (1, 10), (4, 173), (4, 171), (4, 172)] rfl rfl rfl sn_mTw_isBaked
theorem nd10_242 : mP 10 (242, .inl (8, 12)) := mP_of (own := "PaperBread") [(2, 58)] rfl rfl rfl ⟨_, _, _, rfl, by decide⟩
theorem nd10_245 : mP 10 (245, .inr (.inl (false, mPr_has, 1))) := mP_of (own := "PaperBread") [(4, 178), (1, 12), (4, 181), (4, 179), (4, 180)] rfl rfl rfl sn_mPr_has
theorem nd10_248 : mP 10 (248, .inl (4, 0)) := mP_of (own := "PaperBread") [(1, 183)] rfl rfl rfl ⟨_, _, _, rfl, by decide⟩
theorem nd10_249 : mP 10 (249, .inl (4, 1)) := mP_of (own := "PaperBread") [(1, 187)] rfl rfl rfl ⟨_, _, _, rfl, by decide⟩
theorem nd10_252 : mP 10 (252, .inl (4, 2)) := mP_of (own := "PaperBread") [(1, 192)] rfl rfl rfl ⟨_, _, _, rfl, by decide⟩
theorem nd10_255 : mP 10 (255, .inl (4, 3)) := mP_of (own := "PaperBread") [(1, 197)] rfl rfl rfl ⟨_, _, _, rfl, by decide⟩
theorem nd10_258 : mP 10 (258, .inl (4, 4)) := mP_of (own := "PaperBread") [(1, 200)] rfl rfl rfl ⟨_, _, _, rfl, by decide⟩
theorem nd10_261 : mP 10 (261, .inl (4, 5)) := mP_of (own := "PaperBread") [(1, 204)] rfl rfl rfl ⟨_, _, _, rfl, by decide⟩
theorem nd10_265 : mP 10 (265, .inr (.inl (false, mSh_weigh, 2))) := mP_of (own := "PaperBread") [(4, 186), (1, 14), (4, 189), (4, 187), (4, 188)] rfl rfl rfl sn_mSh_weigh
theorem nd10_269 : mP 10 (269, .inl (5, 0)) := mP_of (own := "PaperBread") [(2, 126)] rfl rfl rfl ⟨_, _, _, rfl, by decide⟩
theorem nd10_272 : mP 10 (272, .inr (.inl (false, mPr_deepest, 2))) := mP_of (own := "PaperBread") [(4, 201), (1, 12), (4, 204), (4, 202), (4, 203)] rfl rfl rfl sn_mPr_deepest
theorem nd10_275 : mP 10 (275, .inl (5, 1)) := mP_of (own := "PaperBread") [(2, 128)] rfl rfl rfl ⟨_, _, _, rfl, by decide⟩
theorem nd10_278 : mP 10 (278, .inl (5, 6)) := mP_of (own := "PaperBread") [(2, 140)] rfl rfl rfl ⟨_, _, _, rfl, by decide⟩
theorem nd10_281 : mP 10 (281, .inl (5, 2)) := mP_of (own := "PaperBread") [(2, 130)] rfl rfl rfl ⟨_, _, _, rfl, by decide⟩
theorem nd10_284 : mP 10 (284, .inr (.inl (false, mTw_comesOf, 2))) := mP_of (own := "PaperBread") [(4, 219), (1, 10), (4, 222), (4, 220), (4, 221)] rfl rfl rfl sn_mTw_comesOf
theorem nd10_288 : mP 10 (288, .inr (.inl (false, mSh_deal, 1))) := mP_of (own := "PaperBread") [(4, 223), (1, 14), (4, 226), (4, 224), (4, 225)] rfl rfl rfl sn_mSh_deal
theorem nd10_291 : mP 10 (291, .inr (.inl (false, mSh_ownerOf, 1))) := mP_of (own := "PaperBread") [(4, 227), (1, 14), (4, 230), (4, 228), (4, 229)] rfl rfl rfl sn_mSh_ownerOf
theorem nd10_294 : mP 10 (294, .inr (.inl (false, mTw_bakerOf, 1))) := mP_of (own := "PaperBread") [(4, 235), (1, 10), (4, 238), (4, 236), (4, 237)] rfl rfl rfl sn_mTw_bakerOf
theorem nd10_297 : mP 10 (297, .inl (4, 6)) := mP_of (own := "PaperBread") [(1, 206)] rfl rfl rfl ⟨_, _, _, rfl, by decide⟩
theorem nd10_300 : mP 10 (300, .inr (.inl (false, mPr_handed, 2))) := mP_of (own := "PaperBread") [(5, 3), (1, 12), (5, 6), (5, 4), (5, 5)] rfl rfl rfl sn_mPr_handed
theorem nd10_303 : mP 10 (303, .inr (.inl (false, mPb_wouldGet, 3))) := mP_of (own := "PaperBread") [(5, 16), (1, 1), (5, 19), (5, 18), (0, 21)] rfl rfl rfl sn_mPb_wouldGet
theorem nd10_307 : mP 10 (307, .inr (.inl (false, mSh_settle, 3))) := mP_of (own := "PaperBread") [(5, 24), (1, 14), (5, 27), (5, 25), (5, 26)] rfl rfl rfl sn_mSh_settle
theorem nd10_311 : mP 10 (311, .inl (5, 4)) := mP_of (own := "PaperBread") [(2, 136)] rfl rfl rfl ⟨_, _, _, rfl, by decide⟩
theorem nd10_314 : mP 10 (314, .inr (.inl (false, mTw_rainOn, 1))) := mP_of (own := "PaperBread") [(5, 38), (1, 10), (5, 41), (5, 39), (5, 40)] rfl rfl rfl sn_mTw_rainOn
theorem nd10_317 : mP 10 (317, .inr (.inr (.inr (.inl (16))))) := mP_of (own := "PaperBread") [(5, 42)] rfl rfl rfl trivial
theorem nd10_319 : mP 10 (319, .inr (.inl (false, mPb_tell, 2))) := mP_of (own := "PaperBread") [(5, 43), (1, 1), (5, 46), (5, 45), (0, 22)] rfl rfl rfl sn_mPb_tell
theorem nd10_323 : mP 10 (323, .inr (.inl (false, mPr_surplus, 1))) := mP_of (own := "PaperBread") [(5, 51), (1, 12), (5, 54), (5, 52), (5, 53)] rfl rfl rfl sn_mPr_surplus
theorem nd10_326 : mP 10 (326, .inr (.inl (false, mNe_fewestHandOvers, 1))) := mP_of (own := "PaperBread") [(5, 59), (1, 15), (5, 62), (5, 60), (5, 61)] rfl rfl rfl sn_mNe_fewestHandOvers
theorem nd10_330 : mP 10 (330, .inr (.inl (false, mNe_findRing, 1))) := mP_of (own := "PaperBread") [(5, 69), (1, 15), (5, 72), (5, 70), (5, 71)] rfl rfl rfl sn_mNe_findRing
theorem nd10_334 : mP 10 (334, .inl (3, 4)) := mP_of (own := "PaperBread") [(2, 168)] rfl rfl rfl ⟨_, _, _, rfl, by decide⟩
theorem nd10_337 : mP 10 (337, .inl (3, 3)) := mP_of (own := "PaperBread") [(2, 166)] rfl rfl rfl ⟨_, _, _, rfl, by decide⟩
theorem nd10_340 : mP 10 (340, .inr (.inl (false, mSh_gather, 2))) := mP_of (own := "PaperBread") [(5, 99), (1, 14), (5, 102), (5, 100), (5, 101)] rfl rfl rfl sn_mSh_gather
theorem nd10_343 : mP 10 (343, .inr (.inl (false, mSh_cheapestSet, 2))) := mP_of (own := "PaperBread") [(5, 103), (1, 14), (5, 106), (5, 104), (5, 105)] rfl rfl rfl sn_mSh_cheapestSet
theorem nd10_347 : mP 10 (347, .inr (.inl (false, mTw_flourOf, 1))) := mP_of (own := "PaperBread") [(5, 117), (1, 10), (5, 116), (5, 114), (5, 115)] rfl rfl rfl sn_mTw_flourOf
theorem nd10_350 : mP 10 (350, .inr (.inl (false, mSh_othersHold, 1))) := mP_of (own := "PaperBread") [(5, 122), (1, 14), (5, 125), (5, 123), (5, 124)] rfl rfl rfl sn_mSh_othersHold
theorem nd10_353 : mP 10 (353, .inr (.inl (false, mTr_lengthOf, 1))) := mP_of (own := "PaperBread") [(5, 130), (1, 2), (3, 87), (3, 85), (3, 86)] rfl rfl rfl sn_mTr_lengthOf
theorem nd10_356 : mP 10 (356, .inr (.inr (.inr (.inl (999))))) := mP_of (own := "PaperBread") [(5, 131)] rfl rfl rfl trivial
theorem nd10_358 : mP 10 (358, .inr (.inl (false, mTr_allWithin, 3))) := mP_of (own := "PaperBread") [(5, 132), (1, 2), (5, 135), (5, 133), (5, 134)] rfl rfl rfl sn_mTr_allWithin
theorem nd10_362 : mP 10 (362, .inr (.inl (false, mPb_firstBrokenDay, 3))) := mP_of (own := "PaperBread") [(5, 137), (1, 1), (5, 140), (5, 139), (0, 27)] rfl rfl rfl sn_mPb_firstBrokenDay
theorem nd10_366 : mP 10 (366, .inr (.inl (true, mPb_cuttingTurn, 4))) := mP_of (own := "PaperBread") [(5, 149), (1, 1), (5, 151), (5, 150)] rfl rfl rfl sn_mPb_cuttingTurn
theorem nd10_370 : mP 10 (370, .inr (.inr (.inr (.inl (9999))))) := mP_of (own := "PaperBread") [(5, 157)] rfl rfl rfl trivial
theorem nd10_372 : mP 10 (372, .inr (.inl (false, mTr_placeOfMost, 3))) := mP_of (own := "PaperBread") [(5, 158), (1, 2), (5, 161), (5, 159), (5, 160)] rfl rfl rfl sn_mTr_placeOfMost
theorem nd10_375 : mP 10 (375, .inr (.inl (false, mPr_hasRoom, 0))) := mP_of (own := "PaperBread") [(5, 166), (1, 12), (4, 57), (4, 55), (4, 56)] rfl rfl rfl sn_mPr_hasRoom
theorem nd10_378 : mP 10 (378, .inr (.inl (false, mTw_handOn, 5))) := mP_of (own := "PaperBread") [(5, 167), (1, 10), (4, 53), (4, 51), (4, 52)] rfl rfl rfl sn_mTw_handOn
theorem nd10_382 : mP 10 (382, .inr (.inl (false, mTw_release, 1))) := mP_of (own := "PaperBread") [(5, 172), (1, 10), (5, 175), (5, 173), (5, 174)] rfl rfl rfl sn_mTw_release
theorem nd10_385 : mP 10 (385, .inr (.inl (false, mTw_canBake, 1))) := mP_of (own := "PaperBread") [(5, 182), (1, 10), (5, 185), (5, 183), (5, 184)] rfl rfl rfl sn_mTw_canBake
theorem nd10_388 : mP 10 (388, .inr (.inl (false, mTw_rainsOn, 1))) := mP_of (own := "PaperBread") [(5, 187), (1, 10), (5, 190), (5, 188), (5, 189)] rfl rfl rfl sn_mTw_rainsOn
theorem nd10_391 : mP 10 (391, .inr (.inl (false, mTw_bringOut, 2))) := mP_of (own := "PaperBread") [(5, 195), (1, 10), (5, 198), (5, 196), (5, 197)] rfl rfl rfl sn_mTw_bringOut
theorem nd10_395 : mP 10 (395, .inr (.inl (false, mTw_feast, 2))) := mP_of (own := "PaperBread") [(5, 209), (1, 10), (5, 212), (5, 210), (5, 211)] rfl rfl rfl sn_mTw_feast
theorem nd10_398 : mP 10 (398, .inr (.inl (false, mTw_handMoney, 3))) := mP_of (own := "PaperBread") [(5, 218), (1, 10), (5, 221), (5, 219), (5, 220)] rfl rfl rfl sn_mTw_handMoney
theorem nd10_401 : mP 10 (401, .inl (0, 5)) := mP_of (own := "PaperBread") [(2, 11)] rfl rfl rfl ⟨_, _, _, rfl, by decide⟩
theorem nd10_405 : mP 10 (405, .inr (.inl (false, mLi_run, 2))) := mP_of (own := "PaperBread") [(5, 226), (1, 16), (5, 229), (5, 227), (5, 228)] rfl rfl rfl sn_mLi_run
theorem nd10_408 : mP 10 (408, .inl (10, 15)) := mP_of (own := "PaperBread") [(2, 237)] rfl rfl rfl ⟨_, _, _, rfl, by decide⟩
theorem nd10_411 : mP 10 (411, .inl (1, 3)) := mP_of (own := "PaperBread") [(2, 192)] rfl rfl rfl ⟨_, _, _, rfl, by decide⟩
theorem nd10_412 : mP 10 (412, .inl (1, 4)) := mP_of (own := "PaperBread") [(2, 194)] rfl rfl rfl ⟨_, _, _, rfl, by decide⟩
theorem nd10_415 : mP 10 (415, .inl (1, 5)) := mP_of (own := "PaperBread") [(2, 196)] rfl rfl rfl ⟨_, _, _, rfl, by decide⟩
theorem nd10_418 : mP 10 (418, .inl (1, 6)) := mP_of (own := "PaperBread") [(2, 198)] rfl rfl rfl ⟨_, _, _, rfl, by decide⟩
theorem nd10_421 : mP 10 (421, .inl (1, 7)) := mP_of (own := "PaperBread") [(2, 200)] rfl rfl rfl ⟨_, _, _, rfl, by decide⟩
theorem nd10_424 : mP 10 (424, .inl (1, 8)) := mP_of (own := "PaperBread") [(2, 202)] rfl rfl rfl ⟨_, _, _, rfl, by decide⟩
theorem nd10_427 : mP 10 (427, .inl (10, 9)) := mP_of (own := "PaperBread") [(2, 231)] rfl rfl rfl ⟨_, _, _, rfl, by decide⟩
theorem nd10_430 : mP 10 (430, .inl (7, 9)) := mP_of (own := "PaperBread") [(1, 123)] rfl rfl rfl ⟨_, _, _, rfl, by decide⟩
theorem nd10_433 : mP 10 (433, .inl (7, 10)) := mP_of (own := "PaperBread") [(1, 125)] rfl rfl rfl ⟨_, _, _, rfl, by decide⟩
theorem nd10_436 : mP 10 (436, .inl (5, 3)) := mP_of (own := "PaperBread") [(2, 133)] rfl rfl rfl ⟨_, _, _, rfl, by decide⟩
theorem nd10_439 : mP 10 (439, .inl (5, 5)) := mP_of (own := "PaperBread") [(2, 138)] rfl rfl rfl ⟨_, _, _, rfl, by decide⟩
theorem nd10_442 : mP 10 (442, .inr (.inr (.inr (.inr 3)))) := mP_of (own := "PaperBread") [(5, 152), (3, 165), (1, 19), (3, 166)] rfl rfl rfl trivial
theorem nd10_447 : mP 10 (447, .inr (.inl (false, mTw_copyOf, 1))) := mP_of (own := "PaperBread") [(4, 66), (1, 10), (4, 69), (4, 67), (4, 68)] rfl rfl rfl sn_mTw_copyOf
theorem nd10 : ∀ q ∈ mRL10, mP 10 q := List.forall_mem_cons.mpr ⟨nd10_10, List.forall_mem_cons.mpr ⟨nd10_19, List.forall_mem_cons.mpr ⟨nd10_26, List.forall_mem_cons.mpr ⟨nd10_30, List.forall_mem_cons.mpr ⟨nd10_33, List.forall_mem_cons.mpr ⟨nd10_40, List.forall_mem_cons.mpr ⟨nd10_47, List.forall_mem_cons.mpr ⟨nd10_54, List.forall_mem_cons.mpr ⟨nd10_58, List.forall_mem_cons.mpr ⟨nd10_61, List.forall_mem_cons.mpr ⟨nd10_65, List.forall_mem_cons.mpr ⟨nd10_69, List.forall_mem_cons.mpr ⟨nd10_72, List.forall_mem_cons.mpr ⟨nd10_75, List.forall_mem_cons.mpr ⟨nd10_78, List.forall_mem_cons.mpr ⟨nd10_82, List.forall_mem_cons.mpr ⟨nd10_85, List.forall_mem_cons.mpr ⟨nd10_88, List.forall_mem_cons.mpr ⟨nd10_92, List.forall_mem_cons.mpr ⟨nd10_96, List.forall_mem_cons.mpr ⟨nd10_100, List.forall_mem_cons.mpr ⟨nd10_104, List.forall_mem_cons.mpr ⟨nd10_108, List.forall_mem_cons.mpr ⟨nd10_112, List.forall_mem_cons.mpr ⟨nd10_115, List.forall_mem_cons.mpr ⟨nd10_119, List.forall_mem_cons.mpr ⟨nd10_123, List.forall_mem_cons.mpr ⟨nd10_127, List.forall_mem_cons.mpr ⟨nd10_131, List.forall_mem_cons.mpr ⟨nd10_136, List.forall_mem_cons.mpr ⟨nd10_140, List.forall_mem_cons.mpr ⟨nd10_143, List.forall_mem_cons.mpr ⟨nd10_147, List.forall_mem_cons.mpr ⟨nd10_150, List.forall_mem_cons.mpr ⟨nd10_154, List.forall_mem_cons.mpr ⟨nd10_157, List.forall_mem_cons.mpr ⟨nd10_160, List.forall_mem_cons.mpr ⟨nd10_164, List.forall_mem_cons.mpr ⟨nd10_168, List.forall_mem_cons.mpr ⟨nd10_172, List.forall_mem_cons.mpr ⟨nd10_178, List.forall_mem_cons.mpr ⟨nd10_181, List.forall_mem_cons.mpr ⟨nd10_184, List.forall_mem_cons.mpr ⟨nd10_187, List.forall_mem_cons.mpr ⟨nd10_191, List.forall_mem_cons.mpr ⟨nd10_196, List.forall_mem_cons.mpr ⟨nd10_199, List.forall_mem_cons.mpr ⟨nd10_202, List.forall_mem_cons.mpr ⟨nd10_205, List.forall_mem_cons.mpr ⟨nd10_208, List.forall_mem_cons.mpr ⟨nd10_212, List.forall_mem_cons.mpr ⟨nd10_215, List.forall_mem_cons.mpr ⟨nd10_218, List.forall_mem_cons.mpr ⟨nd10_221, List.forall_mem_cons.mpr ⟨nd10_224, List.forall_mem_cons.mpr ⟨nd10_227, List.forall_mem_cons.mpr ⟨nd10_230, List.forall_mem_cons.mpr ⟨nd10_233, List.forall_mem_cons.mpr ⟨nd10_236, List.forall_mem_cons.mpr ⟨nd10_239, List.forall_mem_cons.mpr ⟨nd10_242, List.forall_mem_cons.mpr ⟨nd10_245, List.forall_mem_cons.mpr ⟨nd10_248, List.forall_mem_cons.mpr ⟨nd10_249, List.forall_mem_cons.mpr ⟨nd10_252, List.forall_mem_cons.mpr ⟨nd10_255, List.forall_mem_cons.mpr ⟨nd10_258, List.forall_mem_cons.mpr ⟨nd10_261, List.forall_mem_cons.mpr ⟨nd10_265, List.forall_mem_cons.mpr ⟨nd10_269, List.forall_mem_cons.mpr ⟨nd10_272, List.forall_mem_cons.mpr ⟨nd10_275, List.forall_mem_cons.mpr ⟨nd10_278, List.forall_mem_cons.mpr ⟨nd10_281, List.forall_mem_cons.mpr ⟨nd10_284, List.forall_mem_cons.mpr ⟨nd10_288, List.forall_mem_cons.mpr ⟨nd10_291, List.forall_mem_cons.mpr ⟨nd10_294, List.forall_mem_cons.mpr ⟨nd10_297, List.forall_mem_cons.mpr ⟨nd10_300, List.forall_mem_cons.mpr ⟨nd10_303, List.forall_mem_cons.mpr ⟨nd10_307, List.forall_mem_cons.mpr ⟨nd10_311, List.forall_mem_cons.mpr ⟨nd10_314, List.forall_mem_cons.mpr ⟨nd10_317, List.forall_mem_cons.mpr ⟨nd10_319, List.forall_mem_cons.mpr ⟨nd10_323, List.forall_mem_cons.mpr ⟨nd10_326, List.forall_mem_cons.mpr ⟨nd10_330, List.forall_mem_cons.mpr ⟨nd10_334, List.forall_mem_cons.mpr ⟨nd10_337, List.forall_mem_cons.mpr ⟨nd10_340, List.forall_mem_cons.mpr ⟨nd10_343, List.forall_mem_cons.mpr ⟨nd10_347, List.forall_mem_cons.mpr ⟨nd10_350, List.forall_mem_cons.mpr ⟨nd10_353, List.forall_mem_cons.mpr ⟨nd10_356, List.forall_mem_cons.mpr ⟨nd10_358, List.forall_mem_cons.mpr ⟨nd10_362, List.forall_mem_cons.mpr ⟨nd10_366, List.forall_mem_cons.mpr ⟨nd10_370, List.forall_mem_cons.mpr ⟨nd10_372, List.forall_mem_cons.mpr ⟨nd10_375, List.forall_mem_cons.mpr ⟨nd10_378, List.forall_mem_cons.mpr ⟨nd10_382, List.forall_mem_cons.mpr ⟨nd10_385, List.forall_mem_cons.mpr ⟨nd10_388, List.forall_mem_cons.mpr ⟨nd10_391, List.forall_mem_cons.mpr ⟨nd10_395, List.forall_mem_cons.mpr ⟨nd10_398, List.forall_mem_cons.mpr ⟨nd10_401, List.forall_mem_cons.mpr ⟨nd10_405, List.forall_mem_cons.mpr ⟨nd10_408, List.forall_mem_cons.mpr ⟨nd10_411, List.forall_mem_cons.mpr ⟨nd10_412, List.forall_mem_cons.mpr ⟨nd10_415, List.forall_mem_cons.mpr ⟨nd10_418, List.forall_mem_cons.mpr ⟨nd10_421, List.forall_mem_cons.mpr ⟨nd10_424, List.forall_mem_cons.mpr ⟨nd10_427, List.forall_mem_cons.mpr ⟨nd10_430, List.forall_mem_cons.mpr ⟨nd10_433, List.forall_mem_cons.mpr ⟨nd10_436, List.forall_mem_cons.mpr ⟨nd10_439, List.forall_mem_cons.mpr ⟨nd10_442, List.forall_mem_cons.mpr ⟨nd10_447, fun _ h => absurd h List.not_mem_nil⟩⟩⟩⟩⟩⟩⟩⟩⟩⟩⟩⟩⟩⟩⟩⟩⟩⟩⟩⟩⟩⟩⟩⟩⟩⟩⟩⟩⟩⟩⟩⟩⟩⟩⟩⟩⟩⟩⟩⟩⟩⟩⟩⟩⟩⟩⟩⟩⟩⟩⟩⟩⟩⟩⟩⟩⟩⟩⟩⟩⟩⟩⟩⟩⟩⟩⟩⟩⟩⟩⟩⟩⟩⟩⟩⟩⟩⟩⟩⟩⟩⟩⟩⟩⟩⟩⟩⟩⟩⟩⟩⟩⟩⟩⟩⟩⟩⟩⟩⟩⟩⟩⟩⟩⟩⟩⟩⟩⟩⟩⟩⟩⟩⟩⟩⟩⟩⟩⟩⟩⟩⟩⟩⟩⟩⟩
theorem nd11_7 : mP 11 (7, .inl (11, 3)) := mP_of (own := "PaperBreadModel") [(6, 62)] rfl rfl rfl ⟨_, _, _, rfl, by decide⟩
theorem nd11_13 : mP 11 (13, .inl (11, 4)) := mP_of (own := "PaperBreadModel") [(6, 63)] rfl rfl rfl ⟨_, _, _, rfl, by decide⟩
theorem nd11_17 : mP 11 (17, .inl (11, 5)) := mP_of (own := "PaperBreadModel") [(6, 64)] rfl rfl rfl ⟨_, _, _, rfl, by decide⟩
theorem nd11_20 : mP 11 (20, .inl (11, 6)) := mP_of (own := "PaperBreadModel") [(6, 65)] rfl rfl rfl ⟨_, _, _, rfl, by decide⟩
theorem nd11_24 : mP 11 (24, .inl (11, 7)) := mP_of (own := "PaperBreadModel") [(6, 66)] rfl rfl rfl ⟨_, _, _, rfl, by decide⟩
theorem nd11_28 : mP 11 (28, .inl (11, 10)) := mP_of (own := "PaperBreadModel") [(6, 69)] rfl rfl rfl ⟨_, _, _, rfl, by decide⟩
theorem nd11_32 : mP 11 (32, .inl (11, 11)) := mP_of (own := "PaperBreadModel") [(6, 70)] rfl rfl rfl ⟨_, _, _, rfl, by decide⟩
theorem nd11_35 : mP 11 (35, .inl (11, 20)) := mP_of (own := "PaperBreadModel") [(6, 79)] rfl rfl rfl ⟨_, _, _, rfl, by decide⟩
theorem nd11_38 : mP 11 (38, .inl (11, 21)) := mP_of (own := "PaperBreadModel") [(6, 80)] rfl rfl rfl ⟨_, _, _, rfl, by decide⟩
theorem nd11_41 : mP 11 (41, .inl (11, 22)) := mP_of (own := "PaperBreadModel") [(6, 81)] rfl rfl rfl ⟨_, _, _, rfl, by decide⟩
theorem nd11_44 : mP 11 (44, .inl (11, 25)) := mP_of (own := "PaperBreadModel") [(6, 84)] rfl rfl rfl ⟨_, _, _, rfl, by decide⟩
theorem nd11_47 : mP 11 (47, .inl (11, 26)) := mP_of (own := "PaperBreadModel") [(6, 85)] rfl rfl rfl ⟨_, _, _, rfl, by decide⟩
theorem nd11_50 : mP 11 (50, .inl (11, 27)) := mP_of (own := "PaperBreadModel") [(6, 86)] rfl rfl rfl ⟨_, _, _, rfl, by decide⟩
theorem nd11_53 : mP 11 (53, .inl (11, 29)) := mP_of (own := "PaperBreadModel") [(6, 88)] rfl rfl rfl ⟨_, _, _, rfl, by decide⟩
theorem nd11_56 : mP 11 (56, .inl (11, 30)) := mP_of (own := "PaperBreadModel") [(6, 89)] rfl rfl rfl ⟨_, _, _, rfl, by decide⟩
theorem nd11_59 : mP 11 (59, .inl (11, 31)) := mP_of (own := "PaperBreadModel") [(6, 90)] rfl rfl rfl ⟨_, _, _, rfl, by decide⟩
theorem nd11_62 : mP 11 (62, .inl (11, 32)) := mP_of (own := "PaperBreadModel") [(6, 91)] rfl rfl rfl ⟨_, _, _, rfl, by decide⟩
theorem nd11_65 : mP 11 (65, .inl (11, 34)) := mP_of (own := "PaperBreadModel") [(6, 93)] rfl rfl rfl ⟨_, _, _, rfl, by decide⟩
theorem nd11_68 : mP 11 (68, .inl (11, 35)) := mP_of (own := "PaperBreadModel") [(6, 94)] rfl rfl rfl ⟨_, _, _, rfl, by decide⟩
theorem nd11_71 : mP 11 (71, .inl (11, 36)) := mP_of (own := "PaperBreadModel") [(6, 95)] rfl rfl rfl ⟨_, _, _, rfl, by decide⟩
theorem nd11_74 : mP 11 (74, .inl (11, 1)) := mP_of (own := "PaperBreadModel") [(6, 60)] rfl rfl rfl ⟨_, _, _, rfl, by decide⟩
theorem nd11_77 : mP 11 (77, .inl (11, 0)) := mP_of (own := "PaperBreadModel") [(6, 59)] rfl rfl rfl ⟨_, _, _, rfl, by decide⟩
theorem nd11_80 : mP 11 (80, .inl (11, 2)) := mP_of (own := "PaperBreadModel") [(6, 61)] rfl rfl rfl ⟨_, _, _, rfl, by decide⟩
theorem nd11_83 : mP 11 (83, .inr (.inr (.inr (.inr 5)))) := mP_of (own := "PaperBreadModel") [(8, 120), (8, 121), (1, 19), (8, 122)] rfl rfl rfl trivial
theorem nd11_89 : mP 11 (89, .inr (.inl (false, mMo_no, 1))) := mP_of (own := "PaperBreadModel") [(6, 214), (1, 17), (6, 217), (6, 216), (0, 34)] rfl rfl rfl sn_mMo_no
theorem nd11_93 : mP 11 (93, .inr (.inl (false, mMo_trayed, 1))) := mP_of (own := "PaperBreadModel") [(6, 226), (1, 17), (6, 229), (6, 228), (0, 36)] rfl rfl rfl sn_mMo_trayed
theorem nd11_97 : mP 11 (97, .inr (.inl (false, mMo_placed, 2))) := mP_of (own := "PaperBreadModel") [(6, 222), (1, 17), (6, 225), (6, 224), (0, 35)] rfl rfl rfl sn_mMo_placed
theorem nd11_101 : mP 11 (101, .inr (.inl (true, mMo_cut, 2))) := mP_of (own := "PaperBreadModel") [(6, 230), (1, 17), (6, 232), (6, 231)] rfl rfl rfl sn_mMo_cut
theorem nd11_105 : mP 11 (105, .inr (.inr (.inr (.inl (-1))))) := mP_of (own := "PaperBreadModel") [(6, 237)] rfl rfl rfl trivial
theorem nd11_107 : mP 11 (107, .inr (.inr (.inr (.inl (3))))) := mP_of (own := "PaperBreadModel") [(8, 183)] rfl rfl rfl trivial
theorem nd11_109 : mP 11 (109, .inr (.inl (true, mMo_isIn, 3))) := mP_of (own := "PaperBreadModel") [(7, 166), (1, 17), (7, 168), (7, 167)] rfl rfl rfl sn_mMo_isIn
theorem nd11_113 : mP 11 (113, .inl (11, 9)) := mP_of (own := "PaperBreadModel") [(6, 68)] rfl rfl rfl ⟨_, _, _, rfl, by decide⟩
theorem nd11_116 : mP 11 (116, .inl (11, 16)) := mP_of (own := "PaperBreadModel") [(6, 75)] rfl rfl rfl ⟨_, _, _, rfl, by decide⟩
theorem nd11_119 : mP 11 (119, .inl (11, 15)) := mP_of (own := "PaperBreadModel") [(6, 74)] rfl rfl rfl ⟨_, _, _, rfl, by decide⟩
theorem nd11_122 : mP 11 (122, .inr (.inl (false, mMo_look2, 1))) := mP_of (own := "PaperBreadModel") [(7, 26), (1, 17), (7, 29), (7, 28), (0, 40)] rfl rfl rfl sn_mMo_look2
theorem nd11_125 : mP 11 (125, .inl (11, 14)) := mP_of (own := "PaperBreadModel") [(6, 73)] rfl rfl rfl ⟨_, _, _, rfl, by decide⟩
theorem nd11_128 : mP 11 (128, .inr (.inl (true, mMo_isLetter, 1))) := mP_of (own := "PaperBreadModel") [(7, 30), (1, 17), (7, 32), (7, 31)] rfl rfl rfl sn_mMo_isLetter
theorem nd11_131 : mP 11 (131, .inl (11, 19)) := mP_of (own := "PaperBreadModel") [(6, 78)] rfl rfl rfl ⟨_, _, _, rfl, by decide⟩
theorem nd11_134 : mP 11 (134, .inr (.inr (.inr (.inl (32))))) := mP_of (own := "PaperBreadModel") [(7, 33)] rfl rfl rfl trivial
theorem nd11_136 : mP 11 (136, .inr (.inr (.inr (.inl (96))))) := mP_of (own := "PaperBreadModel") [(7, 34)] rfl rfl rfl trivial
theorem nd11_138 : mP 11 (138, .inl (11, 18)) := mP_of (own := "PaperBreadModel") [(6, 77)] rfl rfl rfl ⟨_, _, _, rfl, by decide⟩
theorem nd11_141 : mP 11 (141, .inr (.inl (true, mMo_isDigit, 1))) := mP_of (own := "PaperBreadModel") [(7, 35), (1, 17), (7, 37), (7, 36)] rfl rfl rfl sn_mMo_isDigit
theorem nd11_144 : mP 11 (144, .inl (11, 17)) := mP_of (own := "PaperBreadModel") [(6, 76)] rfl rfl rfl ⟨_, _, _, rfl, by decide⟩
theorem nd11_147 : mP 11 (147, .inr (.inl (false, mMo_isSignByte, 1))) := mP_of (own := "PaperBreadModel") [(7, 38), (1, 17), (7, 41), (7, 40), (0, 41)] rfl rfl rfl sn_mMo_isSignByte
theorem nd11_150 : mP 11 (150, .inr (.inl (true, mMo_spelled, 6))) := mP_of (own := "PaperBreadModel") [(7, 46), (1, 17), (7, 48), (7, 47)] rfl rfl rfl sn_mMo_spelled
theorem nd11_154 : mP 11 (154, .inr (.inl (false, mMo_isWord, 1))) := mP_of (own := "PaperBreadModel") [(7, 49), (1, 17), (7, 52), (7, 51), (0, 43)] rfl rfl rfl sn_mMo_isWord
theorem nd11_158 : mP 11 (158, .inr (.inr (.inr (.inl (5))))) := mP_of (own := "PaperBreadModel") [(7, 133)] rfl rfl rfl trivial
theorem nd11_160 : mP 11 (160, .inr (.inl (false, mMo_isPromise, 0))) := mP_of (own := "PaperBreadModel") [(7, 129), (1, 17), (7, 132), (7, 131), (0, 63)] rfl rfl rfl sn_mMo_isPromise
theorem nd11_164 : mP 11 (164, .inr (.inl (false, mMo_isPerson, 0))) := mP_of (own := "PaperBreadModel") [(7, 42), (1, 17), (7, 45), (7, 44), (0, 42)] rfl rfl rfl sn_mMo_isPerson
theorem nd11_167 : mP 11 (167, .inr (.inl (false, mMo_isPurse, 0))) := mP_of (own := "PaperBreadModel") [(7, 73), (1, 17), (7, 76), (7, 75), (0, 49)] rfl rfl rfl sn_mMo_isPurse
theorem nd11_170 : mP 11 (170, .inr (.inl (false, mMo_isOven, 0))) := mP_of (own := "PaperBreadModel") [(7, 77), (1, 17), (7, 80), (7, 79), (0, 50)] rfl rfl rfl sn_mMo_isOven
theorem nd11_173 : mP 11 (173, .inr (.inl (false, mMo_isRain, 0))) := mP_of (own := "PaperBreadModel") [(7, 81), (1, 17), (7, 84), (7, 83), (0, 51)] rfl rfl rfl sn_mMo_isRain
theorem nd11_176 : mP 11 (176, .inr (.inl (false, mMo_isLoaf, 0))) := mP_of (own := "PaperBreadModel") [(7, 85), (1, 17), (7, 88), (7, 87), (0, 52)] rfl rfl rfl sn_mMo_isLoaf
theorem nd11_179 : mP 11 (179, .inr (.inl (false, mMo_isBy, 0))) := mP_of (own := "PaperBreadModel") [(7, 89), (1, 17), (7, 92), (7, 91), (0, 53)] rfl rfl rfl sn_mMo_isBy
theorem nd11_182 : mP 11 (182, .inr (.inl (false, mMo_isInWord, 0))) := mP_of (own := "PaperBreadModel") [(7, 93), (1, 17), (7, 96), (7, 95), (0, 54)] rfl rfl rfl sn_mMo_isInWord
theorem nd11_185 : mP 11 (185, .inr (.inl (false, mMo_isOn, 0))) := mP_of (own := "PaperBreadModel") [(7, 97), (1, 17), (7, 100), (7, 99), (0, 55)] rfl rfl rfl sn_mMo_isOn
theorem nd11_188 : mP 11 (188, .inr (.inl (false, mMo_isSlices, 0))) := mP_of (own := "PaperBreadModel") [(7, 101), (1, 17), (7, 104), (7, 103), (0, 56)] rfl rfl rfl sn_mMo_isSlices
theorem nd11_191 : mP 11 (191, .inr (.inl (false, mMo_isFlour, 0))) := mP_of (own := "PaperBreadModel") [(7, 105), (1, 17), (7, 108), (7, 107), (0, 57)] rfl rfl rfl sn_mMo_isFlour
theorem nd11_194 : mP 11 (194, .inr (.inl (false, mMo_isOf, 0))) := mP_of (own := "PaperBreadModel") [(7, 109), (1, 17), (7, 112), (7, 111), (0, 58)] rfl rfl rfl sn_mMo_isOf
theorem nd11_197 : mP 11 (197, .inr (.inl (false, mMo_isFrom, 0))) := mP_of (own := "PaperBreadModel") [(7, 113), (1, 17), (7, 116), (7, 115), (0, 59)] rfl rfl rfl sn_mMo_isFrom
theorem nd11_200 : mP 11 (200, .inr (.inl (false, mMo_isTo, 0))) := mP_of (own := "PaperBreadModel") [(7, 117), (1, 17), (7, 120), (7, 119), (0, 60)] rfl rfl rfl sn_mMo_isTo
theorem nd11_203 : mP 11 (203, .inr (.inl (false, mMo_isFor, 0))) := mP_of (own := "PaperBreadModel") [(7, 121), (1, 17), (7, 124), (7, 123), (0, 61)] rfl rfl rfl sn_mMo_isFor
theorem nd11_206 : mP 11 (206, .inr (.inl (false, mMo_stepWord, 0))) := mP_of (own := "PaperBreadModel") [(7, 125), (1, 17), (7, 128), (7, 127), (0, 62)] rfl rfl rfl sn_mMo_stepWord
theorem nd11_210 : mP 11 (210, .inr (.inl (false, mMo_testWord, 0))) := mP_of (own := "PaperBreadModel") [(7, 134), (1, 17), (7, 137), (7, 136), (0, 64)] rfl rfl rfl sn_mMo_testWord
theorem nd11_213 : mP 11 (213, .inr (.inl (false, mMo_isEnd, 0))) := mP_of (own := "PaperBreadModel") [(7, 138), (1, 17), (7, 141), (7, 140), (0, 65)] rfl rfl rfl sn_mMo_isEnd
theorem nd11_216 : mP 11 (216, .inr (.inl (false, mMo_isKept, 0))) := mP_of (own := "PaperBreadModel") [(7, 69), (1, 17), (7, 72), (7, 71), (0, 48)] rfl rfl rfl sn_mMo_isKept
theorem nd11_219 : mP 11 (219, .inl (11, 12)) := mP_of (own := "PaperBreadModel") [(6, 71)] rfl rfl rfl ⟨_, _, _, rfl, by decide⟩
theorem nd11_222 : mP 11 (222, .inl (11, 13)) := mP_of (own := "PaperBreadModel") [(6, 72)] rfl rfl rfl ⟨_, _, _, rfl, by decide⟩
theorem nd11_225 : mP 11 (225, .inr (.inl (false, mMo_fail, 2))) := mP_of (own := "PaperBreadModel") [(7, 57), (1, 17), (7, 60), (7, 59), (0, 45)] rfl rfl rfl sn_mMo_fail
theorem nd11_229 : mP 11 (229, .inr (.inl (false, mMo_next, 0))) := mP_of (own := "PaperBreadModel") [(7, 22), (1, 17), (7, 25), (7, 24), (0, 39)] rfl rfl rfl sn_mMo_next
theorem nd11_232 : mP 11 (232, .inr (.inl (false, mMo_wrong, 0))) := mP_of (own := "PaperBreadModel") [(7, 142), (1, 17), (7, 145), (7, 144), (0, 66)] rfl rfl rfl sn_mMo_wrong
theorem nd11_235 : mP 11 (235, .inl (11, 8)) := mP_of (own := "PaperBreadModel") [(6, 67)] rfl rfl rfl ⟨_, _, _, rfl, by decide⟩
theorem nd11_238 : mP 11 (238, .inr (.inl (false, mMo_lay, 1))) := mP_of (own := "PaperBreadModel") [(7, 6), (1, 17), (7, 9), (7, 8), (0, 37)] rfl rfl rfl sn_mMo_lay
theorem nd11_242 : mP 11 (242, .inr (.inl (false, mMo_named, 3))) := mP_of (own := "PaperBreadModel") [(7, 150), (1, 17), (7, 153), (7, 152), (0, 68)] rfl rfl rfl sn_mMo_named
theorem nd11_246 : mP 11 (246, .inr (.inl (false, mMo_isName, 0))) := mP_of (own := "PaperBreadModel") [(7, 65), (1, 17), (7, 68), (7, 67), (0, 47)] rfl rfl rfl sn_mMo_isName
theorem nd11_249 : mP 11 (249, .inr (.inl (false, mMo_personNamed, 1))) := mP_of (own := "PaperBreadModel") [(7, 146), (1, 17), (7, 149), (7, 148), (0, 67)] rfl rfl rfl sn_mMo_personNamed
theorem nd11_252 : mP 11 (252, .inr (.inl (false, mMo_ovenNamed, 1))) := mP_of (own := "PaperBreadModel") [(7, 154), (1, 17), (7, 157), (7, 156), (0, 69)] rfl rfl rfl sn_mMo_ovenNamed
theorem nd11_255 : mP 11 (255, .inr (.inl (false, mMo_loafNamed, 1))) := mP_of (own := "PaperBreadModel") [(7, 158), (1, 17), (7, 161), (7, 160), (0, 70)] rfl rfl rfl sn_mMo_loafNamed
theorem nd11_258 : mP 11 (258, .inr (.inr (.inr (.inr 2)))) := mP_of (own := "PaperBreadModel") [(7, 189), (3, 168), (1, 19), (3, 169)] rfl rfl rfl trivial
theorem nd11_261 : mP 11 (261, .inr (.inl (false, mMo_told, 2))) := mP_of (own := "PaperBreadModel") [(7, 185), (1, 17), (7, 188), (7, 187), (0, 76)] rfl rfl rfl sn_mMo_told
theorem nd11_264 : mP 11 (264, .inr (.inl (false, mMo_must, 1))) := mP_of (own := "PaperBreadModel") [(7, 177), (1, 17), (7, 180), (7, 179), (0, 74)] rfl rfl rfl sn_mMo_must
theorem nd11_268 : mP 11 (268, .inr (.inl (false, mMo_readNew, 1))) := mP_of (own := "PaperBreadModel") [(7, 61), (1, 17), (7, 64), (7, 63), (0, 46)] rfl rfl rfl sn_mMo_readNew
theorem nd11_271 : mP 11 (271, .inr (.inl (false, mMo_count, 2))) := mP_of (own := "PaperBreadModel") [(7, 162), (1, 17), (7, 165), (7, 164), (0, 71)] rfl rfl rfl sn_mMo_count
theorem nd11_274 : mP 11 (274, .inr (.inl (false, mMo_readTold, 2))) := mP_of (own := "PaperBreadModel") [(7, 181), (1, 17), (7, 184), (7, 183), (0, 75)] rfl rfl rfl sn_mMo_readTold
theorem nd11_277 : mP 11 (277, .inr (.inl (false, mMo_readPart, 2))) := mP_of (own := "PaperBreadModel") [(7, 194), (1, 17), (7, 197), (7, 196), (0, 78)] rfl rfl rfl sn_mMo_readPart
theorem nd11_280 : mP 11 (280, .inr (.inl (false, mMo_opens, 2))) := mP_of (own := "PaperBreadModel") [(7, 18), (1, 17), (7, 21), (7, 20), (0, 38)] rfl rfl rfl sn_mMo_opens
theorem nd11_284 : mP 11 (284, .inr (.inl (false, mMo_readPerson, 0))) := mP_of (own := "PaperBreadModel") [(7, 53), (1, 17), (7, 56), (7, 55), (0, 44)] rfl rfl rfl sn_mMo_readPerson
theorem nd11_287 : mP 11 (287, .inr (.inl (false, mMo_readOven, 0))) := mP_of (own := "PaperBreadModel") [(7, 169), (1, 17), (7, 172), (7, 171), (0, 72)] rfl rfl rfl sn_mMo_readOven
theorem nd11_290 : mP 11 (290, .inr (.inl (false, mMo_readLoaf, 0))) := mP_of (own := "PaperBreadModel") [(7, 173), (1, 17), (7, 176), (7, 175), (0, 73)] rfl rfl rfl sn_mMo_readLoaf
theorem nd11_293 : mP 11 (293, .inr (.inl (false, mMo_readPromise, 0))) := mP_of (own := "PaperBreadModel") [(7, 190), (1, 17), (7, 193), (7, 192), (0, 77)] rfl rfl rfl sn_mMo_readPromise
theorem nd11_296 : mP 11 (296, .inr (.inl (false, mMo_isSign, 1))) := mP_of (own := "PaperBreadModel") [(7, 198), (1, 17), (7, 201), (7, 200), (0, 79)] rfl rfl rfl sn_mMo_isSign
theorem nd11_299 : mP 11 (299, .inr (.inl (false, mMo_isWell, 0))) := mP_of (own := "PaperBreadModel") [(7, 202), (1, 17), (7, 205), (7, 204), (0, 80)] rfl rfl rfl sn_mMo_isWell
theorem nd11_302 : mP 11 (302, .inr (.inl (false, mMo_copy, 2))) := mP_of (own := "PaperBreadModel") [(7, 206), (1, 17), (7, 209), (7, 208), (0, 81)] rfl rfl rfl sn_mMo_copy
theorem nd11_305 : mP 11 (305, .inr (.inl (false, mMo_readTest, 1))) := mP_of (own := "PaperBreadModel") [(7, 222), (1, 17), (7, 225), (7, 224), (0, 84)] rfl rfl rfl sn_mMo_readTest
theorem nd11_308 : mP 11 (308, .inl (11, 24)) := mP_of (own := "PaperBreadModel") [(6, 83)] rfl rfl rfl ⟨_, _, _, rfl, by decide⟩
theorem nd11_311 : mP 11 (311, .inr (.inl (false, mMo_readRest, 1))) := mP_of (own := "PaperBreadModel") [(7, 218), (1, 17), (7, 221), (7, 220), (0, 83)] rfl rfl rfl sn_mMo_readRest
theorem nd11_314 : mP 11 (314, .inr (.inl (false, mMo_readStep, 1))) := mP_of (own := "PaperBreadModel") [(7, 214), (1, 17), (7, 217), (7, 216), (0, 82)] rfl rfl rfl sn_mMo_readStep
theorem nd11_317 : mP 11 (317, .inr (.inl (true, mMo_part, 1))) := mP_of (own := "PaperBreadModel") [(8, 30), (1, 17), (8, 32), (8, 31)] rfl rfl rfl sn_mMo_part
theorem nd11_320 : mP 11 (320, .inr (.inl (false, mMo_isMade, 1))) := mP_of (own := "PaperBreadModel") [(8, 45), (1, 17), (8, 48), (8, 47), (0, 94)] rfl rfl rfl sn_mMo_isMade
theorem nd11_323 : mP 11 (323, .inr (.inl (false, mMo_isBaked, 1))) := mP_of (own := "PaperBreadModel") [(7, 234), (1, 17), (7, 237), (7, 236), (0, 86)] rfl rfl rfl sn_mMo_isBaked
theorem nd11_326 : mP 11 (326, .inr (.inl (false, mMo_bakedSet, 0))) := mP_of (own := "PaperBreadModel") [(7, 230), (1, 17), (7, 233), (7, 232), (0, 85)] rfl rfl rfl sn_mMo_bakedSet
theorem nd11_329 : mP 11 (329, .inr (.inl (false, mMo_refuse, 1))) := mP_of (own := "PaperBreadModel") [(7, 238), (1, 17), (8, 1), (8, 0), (0, 87)] rfl rfl rfl sn_mMo_refuse
theorem nd11_332 : mP 11 (332, .inr (.inl (false, mMo_isPersonAt, 1))) := mP_of (own := "PaperBreadModel") [(8, 6), (1, 17), (8, 9), (8, 8), (0, 88)] rfl rfl rfl sn_mMo_isPersonAt
theorem nd11_335 : mP 11 (335, .inr (.inl (false, mMo_isLoafAt, 1))) := mP_of (own := "PaperBreadModel") [(8, 14), (1, 17), (8, 17), (8, 16), (0, 89)] rfl rfl rfl sn_mMo_isLoafAt
theorem nd11_338 : mP 11 (338, .inr (.inl (false, mMo_isPaper, 1))) := mP_of (own := "PaperBreadModel") [(8, 18), (1, 17), (8, 21), (8, 20), (0, 90)] rfl rfl rfl sn_mMo_isPaper
theorem nd11_341 : mP 11 (341, .inr (.inl (false, mMo_isPromiseAt, 1))) := mP_of (own := "PaperBreadModel") [(8, 26), (1, 17), (8, 29), (8, 28), (0, 91)] rfl rfl rfl sn_mMo_isPromiseAt
theorem nd11_344 : mP 11 (344, .inr (.inl (false, mMo_isOfLoaf, 2))) := mP_of (own := "PaperBreadModel") [(8, 41), (1, 17), (8, 44), (8, 43), (0, 93)] rfl rfl rfl sn_mMo_isOfLoaf
theorem nd11_347 : mP 11 (347, .inr (.inl (false, mMo_holdsOf, 2))) := mP_of (own := "PaperBreadModel") [(8, 37), (1, 17), (8, 40), (8, 39), (0, 92)] rfl rfl rfl sn_mMo_holdsOf
theorem nd11_350 : mP 11 (350, .inr (.inl (false, mMo_deepens, 0))) := mP_of (own := "PaperBreadModel") [(8, 53), (1, 17), (8, 56), (8, 55), (0, 95)] rfl rfl rfl sn_mMo_deepens
theorem nd11_353 : mP 11 (353, .inr (.inr (.inl (1000000)))) := mP_of (own := "PaperBreadModel") [(8, 69)] rfl rfl rfl trivial
theorem nd11_354 : mP 11 (354, .inr (.inl (false, mMo_turnOf, 2))) := mP_of (own := "PaperBreadModel") [(8, 65), (1, 17), (8, 68), (8, 67), (0, 96)] rfl rfl rfl sn_mMo_turnOf
theorem nd11_357 : mP 11 (357, .inl (11, 28)) := mP_of (own := "PaperBreadModel") [(6, 87)] rfl rfl rfl ⟨_, _, _, rfl, by decide⟩
theorem nd11_360 : mP 11 (360, .inr (.inl (false, mMo_lines, 1))) := mP_of (own := "PaperBreadModel") [(8, 74), (1, 17), (8, 77), (8, 76), (0, 97)] rfl rfl rfl sn_mMo_lines
theorem nd11_363 : mP 11 (363, .inr (.inl (false, mMo_comes, 2))) := mP_of (own := "PaperBreadModel") [(8, 86), (1, 17), (8, 89), (8, 88), (0, 99)] rfl rfl rfl sn_mMo_comes
theorem nd11_367 : mP 11 (367, .inr (.inr (.inr (.inr 3)))) := mP_of (own := "PaperBreadModel") [(8, 90), (3, 165), (1, 19), (3, 166)] rfl rfl rfl trivial
theorem nd11_370 : mP 11 (370, .inr (.inl (false, mMo_deals, 2))) := mP_of (own := "PaperBreadModel") [(8, 82), (1, 17), (8, 85), (8, 84), (0, 98)] rfl rfl rfl sn_mMo_deals
theorem nd11_374 : mP 11 (374, .inr (.inl (false, mMo_getsOf, 3))) := mP_of (own := "PaperBreadModel") [(8, 95), (1, 17), (8, 98), (8, 97), (0, 100)] rfl rfl rfl sn_mMo_getsOf
theorem nd11_378 : mP 11 (378, .inr (.inl (false, mMo_unmet, 2))) := mP_of (own := "PaperBreadModel") [(8, 103), (1, 17), (8, 106), (8, 105), (0, 101)] rfl rfl rfl sn_mMo_unmet
theorem nd11_381 : mP 11 (381, .inr (.inl (false, mMo_owesOf, 2))) := mP_of (own := "PaperBreadModel") [(8, 107), (1, 17), (8, 110), (8, 109), (0, 102)] rfl rfl rfl sn_mMo_owesOf
theorem nd11_384 : mP 11 (384, .inr (.inr (.inr (.inl (16))))) := mP_of (own := "PaperBreadModel") [(8, 115)] rfl rfl rfl trivial
theorem nd11_386 : mP 11 (386, .inr (.inl (false, mMo_fraction, 2))) := mP_of (own := "PaperBreadModel") [(8, 116), (1, 17), (8, 119), (8, 118), (0, 103)] rfl rfl rfl sn_mMo_fraction
theorem nd11_390 : mP 11 (390, .inr (.inl (false, mMo_netOf, 1))) := mP_of (own := "PaperBreadModel") [(8, 135), (1, 17), (8, 138), (8, 137), (0, 104)] rfl rfl rfl sn_mMo_netOf
theorem nd11_393 : mP 11 (393, .inr (.inl (true, mMo_has, 2))) := mP_of (own := "PaperBreadModel") [(8, 143), (1, 17), (8, 145), (8, 144)] rfl rfl rfl sn_mMo_has
theorem nd11_396 : mP 11 (396, .inr (.inl (false, mMo_goesRound, 3))) := mP_of (own := "PaperBreadModel") [(8, 150), (1, 17), (8, 153), (8, 152), (0, 105)] rfl rfl rfl sn_mMo_goesRound
theorem nd11_400 : mP 11 (400, .inl (11, 33)) := mP_of (own := "PaperBreadModel") [(6, 92)] rfl rfl rfl ⟨_, _, _, rfl, by decide⟩
theorem nd11_403 : mP 11 (403, .inr (.inr (.inr (.inl (999))))) := mP_of (own := "PaperBreadModel") [(8, 162)] rfl rfl rfl trivial
theorem nd11_405 : mP 11 (405, .inr (.inl (false, mMo_isOpen, 1))) := mP_of (own := "PaperBreadModel") [(8, 163), (1, 17), (8, 166), (8, 165), (0, 106)] rfl rfl rfl sn_mMo_isOpen
theorem nd11_408 : mP 11 (408, .inr (.inl (false, mMo_isHeld, 1))) := mP_of (own := "PaperBreadModel") [(8, 171), (1, 17), (8, 174), (8, 173), (0, 107)] rfl rfl rfl sn_mMo_isHeld
theorem nd11_411 : mP 11 (411, .inr (.inl (false, mMo_isTray, 1))) := mP_of (own := "PaperBreadModel") [(8, 179), (1, 17), (8, 182), (8, 181), (0, 108)] rfl rfl rfl sn_mMo_isTray
theorem nd11_414 : mP 11 (414, .inr (.inr (.inr (.inl (60))))) := mP_of (own := "PaperBreadModel") [(8, 184)] rfl rfl rfl trivial
theorem nd11_416 : mP 11 (416, .inr (.inl (false, mMo_numberOf, 2))) := mP_of (own := "PaperBreadModel") [(8, 185), (1, 17), (8, 188), (8, 187), (0, 109)] rfl rfl rfl sn_mMo_numberOf
theorem nd11_420 : mP 11 (420, .inr (.inr (.inr (.inl (2))))) := mP_of (own := "PaperBreadModel") [(8, 197)] rfl rfl rfl trivial
theorem nd11_422 : mP 11 (422, .inr (.inr (.inr (.inl (8))))) := mP_of (own := "PaperBreadModel") [(8, 198)] rfl rfl rfl trivial
theorem nd11_424 : mP 11 (424, .inr (.inr (.inr (.inl (40))))) := mP_of (own := "PaperBreadModel") [(8, 199)] rfl rfl rfl trivial
theorem nd11_426 : mP 11 (426, .inr (.inr (.inr (.inl (9999))))) := mP_of (own := "PaperBreadModel") [(8, 204)] rfl rfl rfl trivial
theorem nd11_428 : mP 11 (428, .inr (.inr (.inr (.inr 4)))) := mP_of (own := "PaperBreadModel") [(8, 205), (8, 206), (1, 19), (8, 207)] rfl rfl rfl trivial
theorem nd11_431 : mP 11 (431, .inr (.inr (.inr (.inl (99))))) := mP_of (own := "PaperBreadModel") [(8, 212)] rfl rfl rfl trivial
theorem nd11_433 : mP 11 (433, .inr (.inl (false, mMo_makes, 5))) := mP_of (own := "PaperBreadModel") [(8, 213), (1, 17), (8, 216), (8, 215), (0, 110)] rfl rfl rfl sn_mMo_makes
theorem nd11_437 : mP 11 (437, .inr (.inl (false, mMo_breaks, 1))) := mP_of (own := "PaperBreadModel") [(8, 221), (1, 17), (8, 224), (8, 223), (0, 111)] rfl rfl rfl sn_mMo_breaks
theorem nd11_440 : mP 11 (440, .inr (.inl (false, mMo_isWetOven, 1))) := mP_of (own := "PaperBreadModel") [(8, 233), (1, 17), (8, 236), (8, 235), (0, 113)] rfl rfl rfl sn_mMo_isWetOven
theorem nd11_443 : mP 11 (443, .inr (.inl (false, mMo_bakes, 1))) := mP_of (own := "PaperBreadModel") [(8, 229), (1, 17), (8, 232), (8, 231), (0, 112)] rfl rfl rfl sn_mMo_bakes
theorem nd11_446 : mP 11 (446, .inr (.inr (.inr (.inl (9))))) := mP_of (own := "PaperBreadModel") [(9, 1)] rfl rfl rfl trivial
theorem nd11_448 : mP 11 (448, .inr (.inl (false, mMo_eats, 2))) := mP_of (own := "PaperBreadModel") [(9, 6), (1, 17), (9, 9), (9, 8), (0, 114)] rfl rfl rfl sn_mMo_eats
theorem nd11_451 : mP 11 (451, .inr (.inl (false, mMo_pays, 3))) := mP_of (own := "PaperBreadModel") [(9, 14), (1, 17), (9, 17), (9, 16), (0, 115)] rfl rfl rfl sn_mMo_pays
theorem nd11_454 : mP 11 (454, .inl (11, 39)) := mP_of (own := "PaperBreadModel") [(6, 98)] rfl rfl rfl ⟨_, _, _, rfl, by decide⟩
theorem nd11_457 : mP 11 (457, .inr (.inr (.inl (65536)))) := mP_of (own := "PaperBreadModel") [(9, 46)] rfl rfl rfl trivial
theorem nd11_458 : mP 11 (458, .inr (.inl (false, mMo_draw, 0))) := mP_of (own := "PaperBreadModel") [(9, 42), (1, 17), (9, 45), (9, 44), (0, 121)] rfl rfl rfl sn_mMo_draw
theorem nd11_461 : mP 11 (461, .inl (11, 42)) := mP_of (own := "PaperBreadModel") [(6, 101)] rfl rfl rfl ⟨_, _, _, rfl, by decide⟩
theorem nd11_464 : mP 11 (464, .inl (11, 44)) := mP_of (own := "PaperBreadModel") [(6, 103)] rfl rfl rfl ⟨_, _, _, rfl, by decide⟩
theorem nd11_467 : mP 11 (467, .inr (.inl (false, mMo_waits, 1))) := mP_of (own := "PaperBreadModel") [(9, 38), (1, 17), (9, 41), (9, 40), (0, 120)] rfl rfl rfl sn_mMo_waits
theorem nd11_470 : mP 11 (470, .inl (11, 43)) := mP_of (own := "PaperBreadModel") [(6, 102)] rfl rfl rfl ⟨_, _, _, rfl, by decide⟩
theorem nd11_473 : mP 11 (473, .inl (11, 40)) := mP_of (own := "PaperBreadModel") [(6, 99)] rfl rfl rfl ⟨_, _, _, rfl, by decide⟩
theorem nd11_476 : mP 11 (476, .inl (11, 38)) := mP_of (own := "PaperBreadModel") [(6, 97)] rfl rfl rfl ⟨_, _, _, rfl, by decide⟩
theorem nd11_480 : mP 11 (480, .inl (11, 45)) := mP_of (own := "PaperBreadModel") [(6, 104)] rfl rfl rfl ⟨_, _, _, rfl, by decide⟩
theorem nd11_483 : mP 11 (483, .inl (11, 41)) := mP_of (own := "PaperBreadModel") [(6, 100)] rfl rfl rfl ⟨_, _, _, rfl, by decide⟩
theorem nd11_486 : mP 11 (486, .inr (.inl (false, mMo_does, 1))) := mP_of (own := "PaperBreadModel") [(9, 34), (1, 17), (9, 37), (9, 36), (0, 119)] rfl rfl rfl sn_mMo_does
theorem nd11_489 : mP 11 (489, .inr (.inl (false, mMo_isSo, 1))) := mP_of (own := "PaperBreadModel") [(9, 47), (1, 17), (9, 50), (9, 49), (0, 122)] rfl rfl rfl sn_mMo_isSo
theorem nd11_492 : mP 11 (492, .inr (.inl (false, mMo_doAll, 2))) := mP_of (own := "PaperBreadModel") [(9, 26), (1, 17), (9, 29), (9, 28), (0, 117)] rfl rfl rfl sn_mMo_doAll
theorem nd11_495 : mP 11 (495, .inr (.inl (false, mMo_doOne, 1))) := mP_of (own := "PaperBreadModel") [(9, 30), (1, 17), (9, 33), (9, 32), (0, 118)] rfl rfl rfl sn_mMo_doOne
theorem nd11_498 : mP 11 (498, .inr (.inl (false, mMo_lives, 1))) := mP_of (own := "PaperBreadModel") [(9, 22), (1, 17), (9, 25), (9, 24), (0, 116)] rfl rfl rfl sn_mMo_lives
theorem nd11_501 : mP 11 (501, .inl (11, 37)) := mP_of (own := "PaperBreadModel") [(6, 96)] rfl rfl rfl ⟨_, _, _, rfl, by decide⟩
theorem nd11_504 : mP 11 (504, .inr (.inr (.inr (.inl (4))))) := mP_of (own := "PaperBreadModel") [(9, 55)] rfl rfl rfl trivial
theorem nd11_506 : mP 11 (506, .inr (.inr (.inr (.inl (20))))) := mP_of (own := "PaperBreadModel") [(9, 60)] rfl rfl rfl trivial
theorem nd11_508 : mP 11 (508, .inl (11, 23)) := mP_of (own := "PaperBreadModel") [(6, 82)] rfl rfl rfl ⟨_, _, _, rfl, by decide⟩
theorem nd11 : ∀ q ∈ mRL11, mP 11 q := List.forall_mem_cons.mpr ⟨nd11_7, List.forall_mem_cons.mpr ⟨nd11_13, List.forall_mem_cons.mpr ⟨nd11_17, List.forall_mem_cons.mpr ⟨nd11_20, List.forall_mem_cons.mpr ⟨nd11_24, List.forall_mem_cons.mpr ⟨nd11_28, List.forall_mem_cons.mpr ⟨nd11_32, List.forall_mem_cons.mpr ⟨nd11_35, List.forall_mem_cons.mpr ⟨nd11_38, List.forall_mem_cons.mpr ⟨nd11_41, List.forall_mem_cons.mpr ⟨nd11_44, List.forall_mem_cons.mpr ⟨nd11_47, List.forall_mem_cons.mpr ⟨nd11_50, List.forall_mem_cons.mpr ⟨nd11_53, List.forall_mem_cons.mpr ⟨nd11_56, List.forall_mem_cons.mpr ⟨nd11_59, List.forall_mem_cons.mpr ⟨nd11_62, List.forall_mem_cons.mpr ⟨nd11_65, List.forall_mem_cons.mpr ⟨nd11_68, List.forall_mem_cons.mpr ⟨nd11_71, List.forall_mem_cons.mpr ⟨nd11_74, List.forall_mem_cons.mpr ⟨nd11_77, List.forall_mem_cons.mpr ⟨nd11_80, List.forall_mem_cons.mpr ⟨nd11_83, List.forall_mem_cons.mpr ⟨nd11_89, List.forall_mem_cons.mpr ⟨nd11_93, List.forall_mem_cons.mpr ⟨nd11_97, List.forall_mem_cons.mpr ⟨nd11_101, List.forall_mem_cons.mpr ⟨nd11_105, List.forall_mem_cons.mpr ⟨nd11_107, List.forall_mem_cons.mpr ⟨nd11_109, List.forall_mem_cons.mpr ⟨nd11_113, List.forall_mem_cons.mpr ⟨nd11_116, List.forall_mem_cons.mpr ⟨nd11_119, List.forall_mem_cons.mpr ⟨nd11_122, List.forall_mem_cons.mpr ⟨nd11_125, List.forall_mem_cons.mpr ⟨nd11_128, List.forall_mem_cons.mpr ⟨nd11_131, List.forall_mem_cons.mpr ⟨nd11_134, List.forall_mem_cons.mpr ⟨nd11_136, List.forall_mem_cons.mpr ⟨nd11_138, List.forall_mem_cons.mpr ⟨nd11_141, List.forall_mem_cons.mpr ⟨nd11_144, List.forall_mem_cons.mpr ⟨nd11_147, List.forall_mem_cons.mpr ⟨nd11_150, List.forall_mem_cons.mpr ⟨nd11_154, List.forall_mem_cons.mpr ⟨nd11_158, List.forall_mem_cons.mpr ⟨nd11_160, List.forall_mem_cons.mpr ⟨nd11_164, List.forall_mem_cons.mpr ⟨nd11_167, List.forall_mem_cons.mpr ⟨nd11_170, List.forall_mem_cons.mpr ⟨nd11_173, List.forall_mem_cons.mpr ⟨nd11_176, List.forall_mem_cons.mpr ⟨nd11_179, List.forall_mem_cons.mpr ⟨nd11_182, List.forall_mem_cons.mpr ⟨nd11_185, List.forall_mem_cons.mpr ⟨nd11_188, List.forall_mem_cons.mpr ⟨nd11_191, List.forall_mem_cons.mpr ⟨nd11_194, List.forall_mem_cons.mpr ⟨nd11_197, List.forall_mem_cons.mpr ⟨nd11_200, List.forall_mem_cons.mpr ⟨nd11_203, List.forall_mem_cons.mpr ⟨nd11_206, List.forall_mem_cons.mpr ⟨nd11_210, List.forall_mem_cons.mpr ⟨nd11_213, List.forall_mem_cons.mpr ⟨nd11_216, List.forall_mem_cons.mpr ⟨nd11_219, List.forall_mem_cons.mpr ⟨nd11_222, List.forall_mem_cons.mpr ⟨nd11_225, List.forall_mem_cons.mpr ⟨nd11_229, List.forall_mem_cons.mpr ⟨nd11_232, List.forall_mem_cons.mpr ⟨nd11_235, List.forall_mem_cons.mpr ⟨nd11_238, List.forall_mem_cons.mpr ⟨nd11_242, List.forall_mem_cons.mpr ⟨nd11_246, List.forall_mem_cons.mpr ⟨nd11_249, List.forall_mem_cons.mpr ⟨nd11_252, List.forall_mem_cons.mpr ⟨nd11_255, List.forall_mem_cons.mpr ⟨nd11_258, List.forall_mem_cons.mpr ⟨nd11_261, List.forall_mem_cons.mpr ⟨nd11_264, List.forall_mem_cons.mpr ⟨nd11_268, List.forall_mem_cons.mpr ⟨nd11_271, List.forall_mem_cons.mpr ⟨nd11_274, List.forall_mem_cons.mpr ⟨nd11_277, List.forall_mem_cons.mpr ⟨nd11_280, List.forall_mem_cons.mpr ⟨nd11_284, List.forall_mem_cons.mpr ⟨nd11_287, List.forall_mem_cons.mpr ⟨nd11_290, List.forall_mem_cons.mpr ⟨nd11_293, List.forall_mem_cons.mpr ⟨nd11_296, List.forall_mem_cons.mpr ⟨nd11_299, List.forall_mem_cons.mpr ⟨nd11_302, List.forall_mem_cons.mpr ⟨nd11_305, List.forall_mem_cons.mpr ⟨nd11_308, List.forall_mem_cons.mpr ⟨nd11_311, List.forall_mem_cons.mpr ⟨nd11_314, List.forall_mem_cons.mpr ⟨nd11_317, List.forall_mem_cons.mpr ⟨nd11_320, List.forall_mem_cons.mpr ⟨nd11_323, List.forall_mem_cons.mpr ⟨nd11_326, List.forall_mem_cons.mpr ⟨nd11_329, List.forall_mem_cons.mpr ⟨nd11_332, List.forall_mem_cons.mpr ⟨nd11_335, List.forall_mem_cons.mpr ⟨nd11_338, List.forall_mem_cons.mpr ⟨nd11_341, List.forall_mem_cons.mpr ⟨nd11_344, List.forall_mem_cons.mpr ⟨nd11_347, List.forall_mem_cons.mpr ⟨nd11_350, List.forall_mem_cons.mpr ⟨nd11_353, List.forall_mem_cons.mpr ⟨nd11_354, List.forall_mem_cons.mpr ⟨nd11_357, List.forall_mem_cons.mpr ⟨nd11_360, List.forall_mem_cons.mpr ⟨nd11_363, List.forall_mem_cons.mpr ⟨nd11_367, List.forall_mem_cons.mpr ⟨nd11_370, List.forall_mem_cons.mpr ⟨nd11_374, List.forall_mem_cons.mpr ⟨nd11_378, List.forall_mem_cons.mpr ⟨nd11_381, List.forall_mem_cons.mpr ⟨nd11_384, List.forall_mem_cons.mpr ⟨nd11_386, List.forall_mem_cons.mpr ⟨nd11_390, List.forall_mem_cons.mpr ⟨nd11_393, List.forall_mem_cons.mpr ⟨nd11_396, List.forall_mem_cons.mpr ⟨nd11_400, List.forall_mem_cons.mpr ⟨nd11_403, List.forall_mem_cons.mpr ⟨nd11_405, List.forall_mem_cons.mpr ⟨nd11_408, List.forall_mem_cons.mpr ⟨nd11_411, List.forall_mem_cons.mpr ⟨nd11_414, List.forall_mem_cons.mpr ⟨nd11_416, List.forall_mem_cons.mpr ⟨nd11_420, List.forall_mem_cons.mpr ⟨nd11_422, List.forall_mem_cons.mpr ⟨nd11_424, List.forall_mem_cons.mpr ⟨nd11_426, List.forall_mem_cons.mpr ⟨nd11_428, List.forall_mem_cons.mpr ⟨nd11_431, List.forall_mem_cons.mpr ⟨nd11_433, List.forall_mem_cons.mpr ⟨nd11_437, List.forall_mem_cons.mpr ⟨nd11_440, List.forall_mem_cons.mpr ⟨nd11_443, List.forall_mem_cons.mpr ⟨nd11_446, List.forall_mem_cons.mpr ⟨nd11_448, List.forall_mem_cons.mpr ⟨nd11_451, List.forall_mem_cons.mpr ⟨nd11_454, List.forall_mem_cons.mpr ⟨nd11_457, List.forall_mem_cons.mpr ⟨nd11_458, List.forall_mem_cons.mpr ⟨nd11_461, List.forall_mem_cons.mpr ⟨nd11_464, List.forall_mem_cons.mpr ⟨nd11_467, List.forall_mem_cons.mpr ⟨nd11_470, List.forall_mem_cons.mpr ⟨nd11_473, List.forall_mem_cons.mpr ⟨nd11_476, List.forall_mem_cons.mpr ⟨nd11_480, List.forall_mem_cons.mpr ⟨nd11_483, List.forall_mem_cons.mpr ⟨nd11_486, List.forall_mem_cons.mpr ⟨nd11_489, List.forall_mem_cons.mpr ⟨nd11_492, List.forall_mem_cons.mpr ⟨nd11_495, List.forall_mem_cons.mpr ⟨nd11_498, List.forall_mem_cons.mpr ⟨nd11_501, List.forall_mem_cons.mpr ⟨nd11_504, List.forall_mem_cons.mpr ⟨nd11_506, List.forall_mem_cons.mpr ⟨nd11_508, fun _ h => absurd h List.not_mem_nil⟩⟩⟩⟩⟩⟩⟩⟩⟩⟩⟩⟩⟩⟩⟩⟩⟩⟩⟩⟩⟩⟩⟩⟩⟩⟩⟩⟩⟩⟩⟩⟩⟩⟩⟩⟩⟩⟩⟩⟩⟩⟩⟩⟩⟩⟩⟩⟩⟩⟩⟩⟩⟩⟩⟩⟩⟩⟩⟩⟩⟩⟩⟩⟩⟩⟩⟩⟩⟩⟩⟩⟩⟩⟩⟩⟩⟩⟩⟩⟩⟩⟩⟩⟩⟩⟩⟩⟩⟩⟩⟩⟩⟩⟩⟩⟩⟩⟩⟩⟩⟩⟩⟩⟩⟩⟩⟩⟩⟩⟩⟩⟩⟩⟩⟩⟩⟩⟩⟩⟩⟩⟩⟩⟩⟩⟩⟩⟩⟩⟩⟩⟩⟩⟩⟩⟩⟩⟩⟩⟩⟩⟩⟩⟩⟩⟩⟩⟩⟩⟩⟩⟩⟩⟩⟩⟩⟩⟩⟩⟩⟩⟩⟩⟩
theorem nd12_13 : mP 12 (13, .inr (.inl (false, mPb_status, 0))) := mP_of (own := "PaperBreadLaw") [(3, 31), (1, 1), (3, 34), (3, 32), (3, 33)] rfl rfl rfl sn_mPb_status
theorem nd12_17 : mP 12 (17, .inr (.inl (false, mMo_status, 0))) := mP_of (own := "PaperBreadLaw") [(6, 198), (1, 17), (6, 201), (6, 199), (6, 200)] rfl rfl rfl sn_mMo_status
theorem nd12_18 : mP 12 (18, .inr (.inl (false, mPb_top, 0))) := mP_of (own := "PaperBreadLaw") [(3, 35), (1, 1), (3, 38), (3, 36), (3, 37)] rfl rfl rfl sn_mPb_top
theorem nd12_22 : mP 12 (22, .inr (.inl (false, mMo_top, 0))) := mP_of (own := "PaperBreadLaw") [(6, 202), (1, 17), (6, 205), (6, 203), (6, 204)] rfl rfl rfl sn_mMo_top
theorem nd12_23 : mP 12 (23, .inr (.inl (false, mPb_bottom, 0))) := mP_of (own := "PaperBreadLaw") [(3, 39), (1, 1), (3, 42), (3, 40), (3, 41)] rfl rfl rfl sn_mPb_bottom
theorem nd12_26 : mP 12 (26, .inr (.inl (false, mMo_bottom, 0))) := mP_of (own := "PaperBreadLaw") [(6, 206), (1, 17), (6, 209), (6, 207), (6, 208)] rfl rfl rfl sn_mMo_bottom
theorem nd12_27 : mP 12 (27, .inr (.inl (false, mPb_tray, 3))) := mP_of (own := "PaperBreadLaw") [(3, 43), (1, 1), (3, 46), (3, 44), (3, 45)] rfl rfl rfl sn_mPb_tray
theorem nd12_31 : mP 12 (31, .inr (.inl (false, mMo_tray, 3))) := mP_of (own := "PaperBreadLaw") [(6, 210), (1, 17), (6, 213), (6, 211), (6, 212)] rfl rfl rfl sn_mMo_tray
theorem nd12_32 : mP 12 (32, .inr (.inr (.inr (.inl (4294967295))))) := mP_of (own := "PaperBreadLaw") [(9, 69)] rfl rfl rfl trivial
theorem nd12_34 : mP 12 (34, .inr (.inl (false, mPb_write, 3))) := mP_of (own := "PaperBreadLaw") [(3, 68), (1, 1), (3, 71), (3, 69), (3, 70)] rfl rfl rfl sn_mPb_write
theorem nd12_38 : mP 12 (38, .inr (.inl (false, mMo_write, 3))) := mP_of (own := "PaperBreadLaw") [(6, 218), (1, 17), (6, 221), (6, 219), (6, 220)] rfl rfl rfl sn_mMo_write
theorem nd12_39 : mP 12 (39, .inr (.inl (false, mPb_read, 2))) := mP_of (own := "PaperBreadLaw") [(3, 95), (1, 1), (3, 98), (3, 96), (3, 97)] rfl rfl rfl sn_mPb_read
theorem nd12_43 : mP 12 (43, .inr (.inl (false, mMo_read, 2))) := mP_of (own := "PaperBreadLaw") [(6, 233), (1, 17), (6, 236), (6, 234), (6, 235)] rfl rfl rfl sn_mMo_read
theorem nd12_44 : mP 12 (44, .inr (.inl (false, mPb_pour, 5))) := mP_of (own := "PaperBreadLaw") [(3, 107), (1, 1), (3, 110), (3, 108), (3, 109)] rfl rfl rfl sn_mPb_pour
theorem nd12_48 : mP 12 (48, .inr (.inl (false, mMo_pour, 5))) := mP_of (own := "PaperBreadLaw") [(6, 238), (1, 17), (7, 1), (6, 239), (7, 0)] rfl rfl rfl sn_mMo_pour
theorem nd12_49 : mP 12 (49, .inr (.inl (false, mPb_feed, 5))) := mP_of (own := "PaperBreadLaw") [(3, 124), (1, 1), (3, 127), (3, 125), (3, 126)] rfl rfl rfl sn_mPb_feed
theorem nd12_53 : mP 12 (53, .inr (.inl (false, mMo_feed, 5))) := mP_of (own := "PaperBreadLaw") [(7, 2), (1, 17), (7, 5), (7, 3), (7, 4)] rfl rfl rfl sn_mMo_feed
theorem nd12_54 : mP 12 (54, .inr (.inl (false, mPb_town, 1))) := mP_of (own := "PaperBreadLaw") [(3, 137), (1, 1), (3, 140), (3, 138), (3, 139)] rfl rfl rfl sn_mPb_town
theorem nd12_58 : mP 12 (58, .inr (.inl (false, mMo_town, 1))) := mP_of (own := "PaperBreadLaw") [(7, 14), (1, 17), (7, 17), (7, 15), (7, 16)] rfl rfl rfl sn_mMo_town
theorem nd12_59 : mP 12 (59, .inr (.inl (false, mPb_days, 1))) := mP_of (own := "PaperBreadLaw") [(4, 90), (1, 1), (4, 93), (4, 91), (4, 92)] rfl rfl rfl sn_mPb_days
theorem nd12_62 : mP 12 (62, .inr (.inl (false, mMo_days, 1))) := mP_of (own := "PaperBreadLaw") [(7, 210), (1, 17), (7, 213), (7, 211), (7, 212)] rfl rfl rfl sn_mMo_days
theorem nd12_63 : mP 12 (63, .inr (.inl (false, mPb_fault, 1))) := mP_of (own := "PaperBreadLaw") [(4, 144), (1, 1), (4, 147), (4, 145), (4, 146)] rfl rfl rfl sn_mPb_fault
theorem nd12_66 : mP 12 (66, .inr (.inl (false, mMo_fault, 1))) := mP_of (own := "PaperBreadLaw") [(7, 10), (1, 17), (7, 13), (7, 11), (7, 12)] rfl rfl rfl sn_mMo_fault
theorem nd12_67 : mP 12 (67, .inr (.inl (false, mPb_many, 1))) := mP_of (own := "PaperBreadLaw") [(4, 148), (1, 1), (4, 151), (4, 149), (4, 150)] rfl rfl rfl sn_mPb_many
theorem nd12_70 : mP 12 (70, .inr (.inl (false, mMo_many, 1))) := mP_of (own := "PaperBreadLaw") [(7, 226), (1, 17), (7, 229), (7, 227), (7, 228)] rfl rfl rfl sn_mMo_many
theorem nd12_71 : mP 12 (71, .inr (.inl (false, mPb_person, 2))) := mP_of (own := "PaperBreadLaw") [(4, 152), (1, 1), (4, 155), (4, 153), (4, 154)] rfl rfl rfl sn_mPb_person
theorem nd12_75 : mP 12 (75, .inr (.inl (false, mMo_person, 2))) := mP_of (own := "PaperBreadLaw") [(8, 2), (1, 17), (8, 5), (8, 3), (8, 4)] rfl rfl rfl sn_mMo_person
theorem nd12_76 : mP 12 (76, .inr (.inl (false, mPb_loaf, 2))) := mP_of (own := "PaperBreadLaw") [(4, 157), (1, 1), (4, 160), (4, 158), (4, 159)] rfl rfl rfl sn_mPb_loaf
theorem nd12_79 : mP 12 (79, .inr (.inl (false, mMo_loaf, 2))) := mP_of (own := "PaperBreadLaw") [(8, 10), (1, 17), (8, 13), (8, 11), (8, 12)] rfl rfl rfl sn_mMo_loaf
theorem nd12_80 : mP 12 (80, .inr (.inl (false, mPb_promise, 2))) := mP_of (own := "PaperBreadLaw") [(4, 174), (1, 1), (4, 177), (4, 175), (4, 176)] rfl rfl rfl sn_mPb_promise
theorem nd12_83 : mP 12 (83, .inr (.inl (false, mMo_promise, 2))) := mP_of (own := "PaperBreadLaw") [(8, 22), (1, 17), (8, 25), (8, 23), (8, 24)] rfl rfl rfl sn_mMo_promise
theorem nd12_84 : mP 12 (84, .inr (.inl (false, mPb_holds, 2))) := mP_of (own := "PaperBreadLaw") [(4, 182), (1, 1), (4, 185), (4, 183), (4, 184)] rfl rfl rfl sn_mPb_holds
theorem nd12_87 : mP 12 (87, .inr (.inl (false, mMo_holds, 2))) := mP_of (own := "PaperBreadLaw") [(8, 33), (1, 17), (8, 36), (8, 34), (8, 35)] rfl rfl rfl sn_mMo_holds
theorem nd12_88 : mP 12 (88, .inr (.inl (false, mPb_deep, 1))) := mP_of (own := "PaperBreadLaw") [(4, 197), (1, 1), (4, 200), (4, 198), (4, 199)] rfl rfl rfl sn_mPb_deep
theorem nd12_91 : mP 12 (91, .inr (.inl (false, mMo_deep, 1))) := mP_of (own := "PaperBreadLaw") [(8, 49), (1, 17), (8, 52), (8, 50), (8, 51)] rfl rfl rfl sn_mMo_deep
theorem nd12_92 : mP 12 (92, .inr (.inl (false, mPb_first, 3))) := mP_of (own := "PaperBreadLaw") [(4, 207), (1, 1), (4, 210), (4, 208), (4, 209)] rfl rfl rfl sn_mPb_first
theorem nd12_96 : mP 12 (96, .inr (.inl (false, mMo_first, 3))) := mP_of (own := "PaperBreadLaw") [(8, 61), (1, 17), (8, 64), (8, 62), (8, 63)] rfl rfl rfl sn_mMo_first
theorem nd12_97 : mP 12 (97, .inr (.inl (false, mPb_line, 2))) := mP_of (own := "PaperBreadLaw") [(4, 211), (1, 1), (4, 214), (4, 212), (4, 213)] rfl rfl rfl sn_mPb_line
theorem nd12_100 : mP 12 (100, .inr (.inl (false, mMo_line, 2))) := mP_of (own := "PaperBreadLaw") [(8, 70), (1, 17), (8, 73), (8, 71), (8, 72)] rfl rfl rfl sn_mMo_line
theorem nd12_101 : mP 12 (101, .inr (.inl (false, mPb_whose, 3))) := mP_of (own := "PaperBreadLaw") [(4, 215), (1, 1), (4, 218), (4, 216), (4, 217)] rfl rfl rfl sn_mPb_whose
theorem nd12_105 : mP 12 (105, .inr (.inl (false, mMo_whose, 3))) := mP_of (own := "PaperBreadLaw") [(8, 78), (1, 17), (8, 81), (8, 79), (8, 80)] rfl rfl rfl sn_mMo_whose
theorem nd12_106 : mP 12 (106, .inr (.inl (false, mPb_depth, 1))) := mP_of (own := "PaperBreadLaw") [(4, 231), (1, 1), (4, 234), (4, 232), (4, 233)] rfl rfl rfl sn_mPb_depth
theorem nd12_109 : mP 12 (109, .inr (.inl (false, mMo_depth, 1))) := mP_of (own := "PaperBreadLaw") [(8, 57), (1, 17), (8, 60), (8, 58), (8, 59)] rfl rfl rfl sn_mMo_depth
theorem nd12_110 : mP 12 (110, .inr (.inl (false, mPb_between, 2))) := mP_of (own := "PaperBreadLaw") [(4, 239), (1, 1), (5, 2), (5, 0), (5, 1)] rfl rfl rfl sn_mPb_between
theorem nd12_113 : mP 12 (113, .inr (.inl (false, mMo_between, 2))) := mP_of (own := "PaperBreadLaw") [(8, 123), (1, 17), (8, 126), (8, 124), (8, 125)] rfl rfl rfl sn_mMo_between
theorem nd12_114 : mP 12 (114, .inr (.inl (false, mPb_gets, 3))) := mP_of (own := "PaperBreadLaw") [(5, 12), (1, 1), (5, 15), (5, 13), (5, 14)] rfl rfl rfl sn_mPb_gets
theorem nd12_117 : mP 12 (117, .inr (.inl (false, mMo_gets, 3))) := mP_of (own := "PaperBreadLaw") [(8, 91), (1, 17), (8, 94), (8, 92), (8, 93)] rfl rfl rfl sn_mMo_gets
theorem nd12_118 : mP 12 (118, .inr (.inl (false, mPb_shame, 2))) := mP_of (own := "PaperBreadLaw") [(5, 20), (1, 1), (5, 23), (5, 21), (5, 22)] rfl rfl rfl sn_mPb_shame
theorem nd12_122 : mP 12 (122, .inr (.inl (false, mMo_shame, 2))) := mP_of (own := "PaperBreadLaw") [(8, 99), (1, 17), (8, 102), (8, 100), (8, 101)] rfl rfl rfl sn_mMo_shame
theorem nd12_123 : mP 12 (123, .inr (.inl (false, mPb_mean, 3))) := mP_of (own := "PaperBreadLaw") [(5, 34), (1, 1), (5, 37), (5, 35), (5, 36)] rfl rfl rfl sn_mPb_mean
theorem nd12_126 : mP 12 (126, .inr (.inl (false, mMo_mean, 3))) := mP_of (own := "PaperBreadLaw") [(8, 111), (1, 17), (8, 114), (8, 112), (8, 113)] rfl rfl rfl sn_mMo_mean
theorem nd12_127 : mP 12 (127, .inr (.inl (false, mPb_net, 1))) := mP_of (own := "PaperBreadLaw") [(5, 47), (1, 1), (5, 50), (5, 48), (5, 49)] rfl rfl rfl sn_mPb_net
theorem nd12_130 : mP 12 (130, .inr (.inl (false, mMo_net, 1))) := mP_of (own := "PaperBreadLaw") [(8, 131), (1, 17), (8, 134), (8, 132), (8, 133)] rfl rfl rfl sn_mMo_net
theorem nd12_131 : mP 12 (131, .inr (.inl (false, mPb_handOvers, 0))) := mP_of (own := "PaperBreadLaw") [(5, 55), (1, 1), (5, 58), (5, 56), (5, 57)] rfl rfl rfl sn_mPb_handOvers
theorem nd12_134 : mP 12 (134, .inr (.inl (false, mMo_handOvers, 0))) := mP_of (own := "PaperBreadLaw") [(8, 139), (1, 17), (8, 142), (8, 140), (8, 141)] rfl rfl rfl sn_mMo_handOvers
theorem nd12_135 : mP 12 (135, .inr (.inl (false, mPb_ring, 0))) := mP_of (own := "PaperBreadLaw") [(5, 65), (1, 1), (5, 68), (5, 66), (5, 67)] rfl rfl rfl sn_mPb_ring
theorem nd12_138 : mP 12 (138, .inr (.inl (false, mMo_ring, 0))) := mP_of (own := "PaperBreadLaw") [(8, 146), (1, 17), (8, 149), (8, 147), (8, 148)] rfl rfl rfl sn_mMo_ring
theorem nd12_139 : mP 12 (139, .inr (.inl (false, mPb_ringAt, 1))) := mP_of (own := "PaperBreadLaw") [(5, 87), (1, 1), (5, 90), (5, 88), (5, 89)] rfl rfl rfl sn_mPb_ringAt
theorem nd12_142 : mP 12 (142, .inr (.inl (false, mMo_ringAt, 1))) := mP_of (own := "PaperBreadLaw") [(8, 154), (1, 17), (8, 157), (8, 155), (8, 156)] rfl rfl rfl sn_mMo_ringAt
theorem nd12_143 : mP 12 (143, .inr (.inl (false, mPb_owing, 1))) := mP_of (own := "PaperBreadLaw") [(5, 91), (1, 1), (5, 94), (5, 92), (5, 93)] rfl rfl rfl sn_mPb_owing
theorem nd12_146 : mP 12 (146, .inr (.inl (false, mMo_owing, 1))) := mP_of (own := "PaperBreadLaw") [(8, 127), (1, 17), (8, 130), (8, 128), (8, 129)] rfl rfl rfl sn_mMo_owing
theorem nd12_147 : mP 12 (147, .inr (.inl (false, mPb_saved, 3))) := mP_of (own := "PaperBreadLaw") [(5, 95), (1, 1), (5, 98), (5, 96), (5, 97)] rfl rfl rfl sn_mPb_saved
theorem nd12_150 : mP 12 (150, .inr (.inl (false, mMo_saved, 3))) := mP_of (own := "PaperBreadLaw") [(8, 158), (1, 17), (8, 161), (8, 159), (8, 160)] rfl rfl rfl sn_mMo_saved
theorem nd12_151 : mP 12 (151, .inr (.inl (false, mPb_faces, 0))) := mP_of (own := "PaperBreadLaw") [(5, 118), (1, 1), (5, 121), (5, 119), (5, 120)] rfl rfl rfl sn_mPb_faces
theorem nd12_154 : mP 12 (154, .inr (.inl (false, mMo_faces, 0))) := mP_of (own := "PaperBreadLaw") [(8, 167), (1, 17), (8, 170), (8, 168), (8, 169)] rfl rfl rfl sn_mMo_faces
theorem nd12_155 : mP 12 (155, .inr (.inl (false, mPb_keeps, 3))) := mP_of (own := "PaperBreadLaw") [(5, 126), (1, 1), (5, 129), (5, 127), (5, 128)] rfl rfl rfl sn_mPb_keeps
theorem nd12_158 : mP 12 (158, .inr (.inl (false, mMo_keeps, 3))) := mP_of (own := "PaperBreadLaw") [(8, 175), (1, 17), (8, 178), (8, 176), (8, 177)] rfl rfl rfl sn_mMo_keeps
theorem nd12_159 : mP 12 (159, .inr (.inl (false, mPb_burst, 0))) := mP_of (own := "PaperBreadLaw") [(5, 141), (1, 1), (5, 144), (5, 142), (5, 143)] rfl rfl rfl sn_mPb_burst
theorem nd12_162 : mP 12 (162, .inr (.inl (false, mMo_burst, 0))) := mP_of (own := "PaperBreadLaw") [(8, 189), (1, 17), (8, 192), (8, 190), (8, 191)] rfl rfl rfl sn_mMo_burst
theorem nd12_163 : mP 12 (163, .inr (.inl (false, mPb_cuts, 5))) := mP_of (own := "PaperBreadLaw") [(5, 145), (1, 1), (5, 148), (5, 146), (5, 147)] rfl rfl rfl sn_mPb_cuts
theorem nd12_166 : mP 12 (166, .inr (.inl (false, mMo_cuts, 5))) := mP_of (own := "PaperBreadLaw") [(8, 193), (1, 17), (8, 196), (8, 194), (8, 195)] rfl rfl rfl sn_mMo_cuts
theorem nd12_167 : mP 12 (167, .inr (.inl (false, mPb_auction, 3))) := mP_of (own := "PaperBreadLaw") [(5, 153), (1, 1), (5, 156), (5, 154), (5, 155)] rfl rfl rfl sn_mPb_auction
theorem nd12_170 : mP 12 (170, .inr (.inl (false, mMo_auction, 3))) := mP_of (own := "PaperBreadLaw") [(8, 200), (1, 17), (8, 203), (8, 201), (8, 202)] rfl rfl rfl sn_mMo_auction
theorem nd12_171 : mP 12 (171, .inr (.inl (false, mPb_make, 5))) := mP_of (own := "PaperBreadLaw") [(5, 162), (1, 1), (5, 165), (5, 163), (5, 164)] rfl rfl rfl sn_mPb_make
theorem nd12_174 : mP 12 (174, .inr (.inl (false, mMo_make, 5))) := mP_of (own := "PaperBreadLaw") [(8, 208), (1, 17), (8, 211), (8, 209), (8, 210)] rfl rfl rfl sn_mMo_make
theorem nd12_175 : mP 12 (175, .inr (.inl (false, mPb_letGo, 1))) := mP_of (own := "PaperBreadLaw") [(5, 168), (1, 1), (5, 171), (5, 169), (5, 170)] rfl rfl rfl sn_mPb_letGo
theorem nd12_179 : mP 12 (179, .inr (.inl (false, mMo_letGo, 1))) := mP_of (own := "PaperBreadLaw") [(8, 217), (1, 17), (8, 220), (8, 218), (8, 219)] rfl rfl rfl sn_mMo_letGo
theorem nd12_180 : mP 12 (180, .inr (.inl (false, mPb_bake, 1))) := mP_of (own := "PaperBreadLaw") [(5, 178), (1, 1), (5, 181), (5, 179), (5, 180)] rfl rfl rfl sn_mPb_bake
theorem nd12_183 : mP 12 (183, .inr (.inl (false, mMo_bake, 1))) := mP_of (own := "PaperBreadLaw") [(8, 225), (1, 17), (8, 228), (8, 226), (8, 227)] rfl rfl rfl sn_mMo_bake
theorem nd12_184 : mP 12 (184, .inr (.inl (false, mPb_pass, 1))) := mP_of (own := "PaperBreadLaw") [(5, 201), (1, 1), (5, 204), (5, 202), (5, 203)] rfl rfl rfl sn_mPb_pass
theorem nd12_187 : mP 12 (187, .inr (.inl (false, mMo_pass, 1))) := mP_of (own := "PaperBreadLaw") [(8, 237), (1, 17), (9, 0), (8, 238), (8, 239)] rfl rfl rfl sn_mMo_pass
theorem nd12_188 : mP 12 (188, .inr (.inl (false, mPb_eat, 2))) := mP_of (own := "PaperBreadLaw") [(5, 205), (1, 1), (5, 208), (5, 206), (5, 207)] rfl rfl rfl sn_mPb_eat
theorem nd12_191 : mP 12 (191, .inr (.inl (false, mMo_eat, 2))) := mP_of (own := "PaperBreadLaw") [(9, 2), (1, 17), (9, 5), (9, 3), (9, 4)] rfl rfl rfl sn_mMo_eat
theorem nd12_192 : mP 12 (192, .inr (.inl (false, mPb_pay, 3))) := mP_of (own := "PaperBreadLaw") [(5, 214), (1, 1), (5, 217), (5, 215), (5, 216)] rfl rfl rfl sn_mPb_pay
theorem nd12_195 : mP 12 (195, .inr (.inl (false, mMo_pay, 3))) := mP_of (own := "PaperBreadLaw") [(9, 10), (1, 17), (9, 13), (9, 11), (9, 12)] rfl rfl rfl sn_mMo_pay
theorem nd12_196 : mP 12 (196, .inr (.inl (false, mPb_live, 1))) := mP_of (own := "PaperBreadLaw") [(5, 222), (1, 1), (5, 225), (5, 223), (5, 224)] rfl rfl rfl sn_mPb_live
theorem nd12_199 : mP 12 (199, .inr (.inl (false, mMo_live, 1))) := mP_of (own := "PaperBreadLaw") [(9, 18), (1, 17), (9, 21), (9, 19), (9, 20)] rfl rfl rfl sn_mMo_live
theorem nd12_200 : mP 12 (200, .inr (.inl (false, mPb_lived, 1))) := mP_of (own := "PaperBreadLaw") [(6, 37), (1, 1), (6, 40), (6, 38), (6, 39)] rfl rfl rfl sn_mPb_lived
theorem nd12_203 : mP 12 (203, .inr (.inl (false, mMo_lived, 1))) := mP_of (own := "PaperBreadLaw") [(9, 51), (1, 17), (9, 54), (9, 52), (9, 53)] rfl rfl rfl sn_mMo_lived
theorem nd12_204 : mP 12 (204, .inr (.inl (false, mPb_odds, 4))) := mP_of (own := "PaperBreadLaw") [(6, 41), (1, 1), (6, 44), (6, 42), (6, 43)] rfl rfl rfl sn_mPb_odds
theorem nd12_208 : mP 12 (208, .inr (.inl (false, mMo_odds, 4))) := mP_of (own := "PaperBreadLaw") [(9, 56), (1, 17), (9, 59), (9, 57), (9, 58)] rfl rfl rfl sn_mMo_odds
theorem nd12_209 : mP 12 (209, .inr (.inl (false, mPb_mark, 0))) := mP_of (own := "PaperBreadLaw") [(6, 45), (1, 1), (6, 48), (6, 46), (6, 47)] rfl rfl rfl sn_mPb_mark
theorem nd12_212 : mP 12 (212, .inr (.inl (false, mMo_mark, 0))) := mP_of (own := "PaperBreadLaw") [(9, 61), (1, 17), (9, 64), (9, 62), (9, 63)] rfl rfl rfl sn_mMo_mark
theorem nd12_213 : mP 12 (213, .inr (.inl (false, mPb_back, 0))) := mP_of (own := "PaperBreadLaw") [(6, 49), (1, 1), (6, 52), (6, 50), (6, 51)] rfl rfl rfl sn_mPb_back
theorem nd12_216 : mP 12 (216, .inr (.inl (false, mMo_back, 0))) := mP_of (own := "PaperBreadLaw") [(9, 65), (1, 17), (9, 68), (9, 66), (9, 67)] rfl rfl rfl sn_mMo_back
theorem nd12 : ∀ q ∈ mRL12, mP 12 q := List.forall_mem_cons.mpr ⟨nd12_13, List.forall_mem_cons.mpr ⟨nd12_17, List.forall_mem_cons.mpr ⟨nd12_18, List.forall_mem_cons.mpr ⟨nd12_22, List.forall_mem_cons.mpr ⟨nd12_23, List.forall_mem_cons.mpr ⟨nd12_26, List.forall_mem_cons.mpr ⟨nd12_27, List.forall_mem_cons.mpr ⟨nd12_31, List.forall_mem_cons.mpr ⟨nd12_32, List.forall_mem_cons.mpr ⟨nd12_34, List.forall_mem_cons.mpr ⟨nd12_38, List.forall_mem_cons.mpr ⟨nd12_39, List.forall_mem_cons.mpr ⟨nd12_43, List.forall_mem_cons.mpr ⟨nd12_44, List.forall_mem_cons.mpr ⟨nd12_48, List.forall_mem_cons.mpr ⟨nd12_49, List.forall_mem_cons.mpr ⟨nd12_53, List.forall_mem_cons.mpr ⟨nd12_54, List.forall_mem_cons.mpr ⟨nd12_58, List.forall_mem_cons.mpr ⟨nd12_59, List.forall_mem_cons.mpr ⟨nd12_62, List.forall_mem_cons.mpr ⟨nd12_63, List.forall_mem_cons.mpr ⟨nd12_66, List.forall_mem_cons.mpr ⟨nd12_67, List.forall_mem_cons.mpr ⟨nd12_70, List.forall_mem_cons.mpr ⟨nd12_71, List.forall_mem_cons.mpr ⟨nd12_75, List.forall_mem_cons.mpr ⟨nd12_76, List.forall_mem_cons.mpr ⟨nd12_79, List.forall_mem_cons.mpr ⟨nd12_80, List.forall_mem_cons.mpr ⟨nd12_83, List.forall_mem_cons.mpr ⟨nd12_84, List.forall_mem_cons.mpr ⟨nd12_87, List.forall_mem_cons.mpr ⟨nd12_88, List.forall_mem_cons.mpr ⟨nd12_91, List.forall_mem_cons.mpr ⟨nd12_92, List.forall_mem_cons.mpr ⟨nd12_96, List.forall_mem_cons.mpr ⟨nd12_97, List.forall_mem_cons.mpr ⟨nd12_100, List.forall_mem_cons.mpr ⟨nd12_101, List.forall_mem_cons.mpr ⟨nd12_105, List.forall_mem_cons.mpr ⟨nd12_106, List.forall_mem_cons.mpr ⟨nd12_109, List.forall_mem_cons.mpr ⟨nd12_110, List.forall_mem_cons.mpr ⟨nd12_113, List.forall_mem_cons.mpr ⟨nd12_114, List.forall_mem_cons.mpr ⟨nd12_117, List.forall_mem_cons.mpr ⟨nd12_118, List.forall_mem_cons.mpr ⟨nd12_122, List.forall_mem_cons.mpr ⟨nd12_123, List.forall_mem_cons.mpr ⟨nd12_126, List.forall_mem_cons.mpr ⟨nd12_127, List.forall_mem_cons.mpr ⟨nd12_130, List.forall_mem_cons.mpr ⟨nd12_131, List.forall_mem_cons.mpr ⟨nd12_134, List.forall_mem_cons.mpr ⟨nd12_135, List.forall_mem_cons.mpr ⟨nd12_138, List.forall_mem_cons.mpr ⟨nd12_139, List.forall_mem_cons.mpr ⟨nd12_142, List.forall_mem_cons.mpr ⟨nd12_143, List.forall_mem_cons.mpr ⟨nd12_146, List.forall_mem_cons.mpr ⟨nd12_147, List.forall_mem_cons.mpr ⟨nd12_150, List.forall_mem_cons.mpr ⟨nd12_151, List.forall_mem_cons.mpr ⟨nd12_154, List.forall_mem_cons.mpr ⟨nd12_155, List.forall_mem_cons.mpr ⟨nd12_158, List.forall_mem_cons.mpr ⟨nd12_159, List.forall_mem_cons.mpr ⟨nd12_162, List.forall_mem_cons.mpr ⟨nd12_163, List.forall_mem_cons.mpr ⟨nd12_166, List.forall_mem_cons.mpr ⟨nd12_167, List.forall_mem_cons.mpr ⟨nd12_170, List.forall_mem_cons.mpr ⟨nd12_171, List.forall_mem_cons.mpr ⟨nd12_174, List.forall_mem_cons.mpr ⟨nd12_175, List.forall_mem_cons.mpr ⟨nd12_179, List.forall_mem_cons.mpr ⟨nd12_180, List.forall_mem_cons.mpr ⟨nd12_183, List.forall_mem_cons.mpr ⟨nd12_184, List.forall_mem_cons.mpr ⟨nd12_187, List.forall_mem_cons.mpr ⟨nd12_188, List.forall_mem_cons.mpr ⟨nd12_191, List.forall_mem_cons.mpr ⟨nd12_192, List.forall_mem_cons.mpr ⟨nd12_195, List.forall_mem_cons.mpr ⟨nd12_196, List.forall_mem_cons.mpr ⟨nd12_199, List.forall_mem_cons.mpr ⟨nd12_200, List.forall_mem_cons.mpr ⟨nd12_203, List.forall_mem_cons.mpr ⟨nd12_204, List.forall_mem_cons.mpr ⟨nd12_208, List.forall_mem_cons.mpr ⟨nd12_209, List.forall_mem_cons.mpr ⟨nd12_212, List.forall_mem_cons.mpr ⟨nd12_213, List.forall_mem_cons.mpr ⟨nd12_216, fun _ h => absurd h List.not_mem_nil⟩⟩⟩⟩⟩⟩⟩⟩⟩⟩⟩⟩⟩⟩⟩⟩⟩⟩⟩⟩⟩⟩⟩⟩⟩⟩⟩⟩⟩⟩⟩⟩⟩⟩⟩⟩⟩⟩⟩⟩⟩⟩⟩⟩⟩⟩⟩⟩⟩⟩⟩⟩⟩⟩⟩⟩⟩⟩⟩⟩⟩⟩⟩⟩⟩⟩⟩⟩⟩⟩⟩⟩⟩⟩⟩⟩⟩⟩⟩⟩⟩⟩⟩⟩⟩⟩⟩⟩⟩⟩⟩⟩⟩⟩⟩
theorem nd13 : ∀ q ∈ mRL13, mP 13 q := fun _ h => absurd h List.not_mem_nil
theorem nd14 : ∀ q ∈ mRL14, mP 14 q := fun _ h => absurd h List.not_mem_nil
theorem mRz_ok {c idx : Nat} {z : mZ} (h : mRz c idx = some z) : mP c (idx, z) := by
  unfold mRz at h
  have hm : (idx, z) ∈ mRLs.getD c [] := mLookup_mem h
  match c, hm with
  | 0, hm => exact nd0 _ hm
  | 1, hm => exact nd1 _ hm
  | 2, hm => exact nd2 _ hm
  | 3, hm => exact nd3 _ hm
  | 4, hm => exact nd4 _ hm
  | 5, hm => exact nd5 _ hm
  | 6, hm => exact nd6 _ hm
  | 7, hm => exact nd7 _ hm
  | 8, hm => exact nd8 _ hm
  | 9, hm => exact nd9 _ hm
  | 10, hm => exact nd10 _ hm
  | 11, hm => exact nd11 _ hm
  | 12, hm => exact nd12 _ hm
  | 13, hm => exact nd13 _ hm
  | 14, hm => exact nd14 _ hm
  | _ + 15, hm => exact absurd hm List.not_mem_nil
end
section
/-! A machine of my own over the cells that the constructors make: ints and longs by cell and place; references never change. -/
abbrev mSt : Type := (Nat → Nat → Int32) × (Nat → Nat → Int64)
def sI (σ : mSt) (o k : Nat) (v : Int32) : mSt := (fun a b => if a = o ∧ b = k then v else σ.1 a b, σ.2)
def sL (σ : mSt) (o k : Nat) (v : Int64) : mSt := (σ.1, fun a b => if a = o ∧ b = k then v else σ.2 a b)
def cpI (σ : mSt) (a b : Nat) (sp dp n : Nat) : mSt := (fun o k => if o = b then va_cpy (σ.1 a) (σ.1 b) sp dp n k else σ.1 o k, σ.2)
def cpL (σ : mSt) (a b : Nat) (sp dp n : Nat) : mSt := (σ.1, fun o k => if o = b then va_cpy (σ.2 a) (σ.2 b) sp dp n k else σ.2 o k)
/-- a place of the locals of which nothing is known -/
abbrev uu : Value := .retAddr 0
def kn : Value → Bool
  | .retAddr _ => false
  | _ => true
def clr : Value → Value
  | .long _ => uu
  | .double _ => uu
  | v => v
def lst1 : List Value → Nat → Value → List Value
  | [], _, _ => []
  | _ :: t, 0, v => v :: t
  | a :: t, 1, v => clr a :: lst1 t 0 v
  | a :: t, n + 2, v => a :: lst1 t (n + 1) v
def lst2 (ls : List Value) (i : Nat) (v : Value) : List Value := (lst1 ls i v).set (i + 1) uu
def xpd (vs : List Value) : List Value := vs.flatMap fun v => if v.category = 2 then [v, uu] else [v]
def ent (n : Nat) (vs : List Value) : List Value := xpd vs ++ List.replicate (n - (xpd vs).length) uu
abbrev mRes : Type := Option ((Nat × List Value × List Value × mSt) ⊕ ((mM × List Value × Nat × List Value × List Value) ⊕ Option Value))
def nx (i : Nat) (ls st : List Value) (σ : mSt) : mRes := some (.inl (i, ls, st, σ))
def jp (i : Nat) (off : Int) (ls st : List Value) (σ : mSt) : mRes := if 0 ≤ (i : Int) + off then nx ((i : Int) + off).toNat ls st σ else none
def br (i : Nat) (off : Int) (c : Prop) [Decidable c] (ls st : List Value) (σ : mSt) : mRes := if 0 ≤ (i : Int) + off then nx (if c then ((i : Int) + off).toNat else i + 3) ls st σ else none
def mStarts : Nat → Int32 := fun k => if k = 0 then 0 else if k = 1 then 8 else if k = 2 then 12 else 20
/-- the script: how many, which -/
abbrev mEn : Type := Nat × (Nat → Int32)
def iRow (E : mEn) (σ : mSt) (o : Nat) : Option (Nat × (Nat → Int32)) := if o = 1000 then some (E.1, E.2) else if o = 1001 then some (4, mStarts) else match mS0[o]? with
  | some (0, n, _) => some (n, σ.1 o)
  | _ => none
def aLen (E : mEn) (o : Nat) : Option Nat := if o = 1000 then some E.1 else if o = 1001 then some 4 else match mS0[o]? with
  | some (t, n, _) => if t < 5 then some n else none
  | none => none
def mOut (j : Int32) (n : Nat) : Bool := decide (j < 0) || decide (n ≤ j.toNatClampNeg)
def cats (st : List Value) : Nat := (st.map fun v => v.category).sum
/-- may a field be written here (no final one), and what of its sort -/
def mFin (ci k : Nat) : Bool := match vwCl[ci]? with
  | some (_, T, _) => (T k).2.2.2
  | none => true
def mTyF (ci k : Nat) : FieldType := match ci with
  | 0 => tyX0 k
  | 1 => tyX1 k
  | 2 => tyX2 k
  | 3 => tyX3 k
  | 4 => tyX4 k
  | 5 => tyX5 k
  | 6 => tyX6 k
  | 7 => tyX7 k
  | 8 => tyX8 k
  | 9 => tyX9 k
  | 10 => tyX10 k
  | _ => tyX11 k
def doCall (M' : mM) (vs : List Value) (i : Nat) (ls st : List Value) : mRes := if (xpd vs).length ≤ mL M' ∧ cats st ≤ 8 then some (.inr (.inl (M', vs, i, ls, st))) else none
def doCopy (i : Nat) (ls st : List Value) (σ : mSt) : mRes := match st with
  | .int n :: .int dp :: .ref b :: .int sp :: .ref a :: st => if sp < 0 ∨ dp < 0 ∨ n < 0 ∨ 8 < cats st then none else match mS0[a]?, mS0[b]? with
    | some (ta, na, _), some (tb, nb, _) => if ta = tb ∧ sp.toNatClampNeg + n.toNatClampNeg ≤ na ∧ dp.toNatClampNeg + n.toNatClampNeg ≤ nb then
        (if ta = 0 then nx (i + 3) ls st (cpI σ a b sp.toNatClampNeg dp.toNatClampNeg n.toNatClampNeg)
         else if ta = 2 then (if (List.range n.toNatClampNeg).all (fun j => fits .boolean (.int (σ.1 a (sp.toNatClampNeg + j)))) then nx (i + 3) ls st (cpI σ a b sp.toNatClampNeg dp.toNatClampNeg n.toNatClampNeg) else none)
         else if ta = 3 then nx (i + 3) ls st (cpL σ a b sp.toNatClampNeg dp.toNatClampNeg n.toNatClampNeg)
         else none) else none
    | _, _ => none
  | _ => none
def doStat (M : mM) (idx i : Nat) (ls st : List Value) (σ : mSt) : mRes := match mRz (mK M) idx with
  | some (.inr (.inl (true, M', n))) => if (st.take n).length = n then doCall M' (st.take n).reverse (i + 3) ls (st.drop n) else none
  | some (.inr (.inr (.inr (.inr 0)))) => doCopy i ls st σ
  | some (.inr (.inr (.inr (.inr 2)))) => (match st with
    | .int y :: .int x :: st => if cats st ≤ 8 then nx (i + 3) ls (.int (if x < y then y else x) :: st) σ else none
    | _ => none)
  | some (.inr (.inr (.inr (.inr 3)))) => (match st with
    | .int y :: .int x :: st => if cats st ≤ 8 then nx (i + 3) ls (.int (if y < x then y else x) :: st) σ else none
    | _ => none)
  | some (.inr (.inr (.inr (.inr 4)))) => (match st with
    | .long y :: .long x :: st => if cats st ≤ 8 then nx (i + 3) ls (.long (if y < x then x else y) :: st) σ else none
    | _ => none)
  | some (.inr (.inr (.inr (.inr 5)))) => (match st with
    | .long x :: st => if cats st ≤ 8 then nx (i + 3) ls (.long (if 0 < x then x else -x) :: st) σ else none
    | _ => none)
  | _ => none
def doVirt (M : mM) (idx i : Nat) (ls st : List Value) : mRes := match mRz (mK M) idx with
  | some (.inr (.inl (false, M', n))) => (match st.drop n with
    | .ref b :: st' => (match mS0[b]? with
      | some (5, ci, _) => if ci = mK M' ∧ (st.take n).length = n then doCall M' (.ref b :: (st.take n).reverse) (i + 3) ls st' else none
      | _ => none)
    | _ => none)
  | _ => none
def doGet (M : mM) (idx i : Nat) (ls st : List Value) (σ : mSt) : mRes := match st, mRz (mK M) idx with
  | .ref o :: st, some (.inl (ci, k)) => (match mS0[o]? with
    | some (5, c', fl) => if c' = ci then (match fl[k]? with
      | some 0 => nx (i + 3) ls (.int (σ.1 o k) :: st) σ
      | some 1 => nx (i + 3) ls (.long (σ.2 o k) :: st) σ
      | some (r + 2) => nx (i + 3) ls (.ref r :: st) σ
      | none => none) else none
    | _ => none)
  | _, _ => none
def doPut (M : mM) (idx i : Nat) (ls st : List Value) (σ : mSt) : mRes := match st, mRz (mK M) idx with
  | .int v :: .ref o :: st, some (.inl (ci, k)) => (match mS0[o]? with
    | some (5, c', fl) => if c' = ci ∧ mFin ci k = false ∧ fl[k]? = some 0 then
        (if mTyF ci k = .int then nx (i + 3) ls st (sI σ o k v)
         else if mTyF ci k = .boolean then (if v = 0 ∨ v = 1 then nx (i + 3) ls st (sI σ o k v) else none) else none) else none
    | _ => none)
  | .long v :: .ref o :: st, some (.inl (ci, k)) => (match mS0[o]? with
    | some (5, c', fl) => if c' = ci ∧ mFin ci k = false ∧ fl[k]? = some 1 ∧ mTyF ci k = .long then nx (i + 3) ls st (sL σ o k v) else none
    | _ => none)
  | _, _ => none
def cm0 (c : ClassFile.Cond) (x : Int32) : Bool := match c with
  | .eq => decide (x = 0)
  | .ne => decide (¬ x = 0)
  | .lt => decide (x < 0)
  | .ge => decide (0 ≤ x)
  | .gt => decide (0 < x)
  | .le => decide (x ≤ 0)
def cm2 (c : ClassFile.Cond) (x y : Int32) : Bool := match c with
  | .eq => decide (x = y)
  | .ne => decide (¬ x = y)
  | .lt => decide (x < y)
  | .ge => decide (y ≤ x)
  | .gt => decide (y < x)
  | .le => decide (x ≤ y)
def ldI (i : Nat) (k : Nat) (ls st : List Value) (σ : mSt) : mRes := match ls[k]? with
  | some (.int v) => nx i ls (.int v :: st) σ
  | _ => none
def ldJ (i : Nat) (k : Nat) (ls st : List Value) (σ : mSt) : mRes := match ls[k]? with
  | some (.long v) => nx i ls (.long v :: st) σ
  | _ => none
def ldA (i : Nat) (k : Nat) (ls st : List Value) (σ : mSt) : mRes := match ls[k]? with
  | some (.ref v) => nx i ls (.ref v :: st) σ
  | _ => none
def stI (i : Nat) (k : Nat) (ls st : List Value) (σ : mSt) : mRes := match st with
  | .int v :: st => if k < ls.length then nx i (lst1 ls k (.int v)) st σ else none
  | _ => none
def stA (i : Nat) (k : Nat) (ls st : List Value) (σ : mSt) : mRes := match st with
  | .ref v :: st => if k < ls.length then nx i (lst1 ls k (.ref v)) st σ else none
  | _ => none
def stJ (i : Nat) (k : Nat) (ls st : List Value) (σ : mSt) : mRes := match st with
  | .long v :: st => if k + 1 < ls.length then nx i (lst2 ls k (.long v)) st σ else none
  | _ => none
def o2 (f : Int32 → Int32 → Int32) (i : Nat) (ls st : List Value) (σ : mSt) : mRes := match st with
  | .int y :: .int x :: st => nx (i + 1) ls (.int (f x y) :: st) σ
  | _ => none
def o2d (f : Int32 → Int32 → Int32) (i : Nat) (ls st : List Value) (σ : mSt) : mRes := match st with
  | .int y :: .int x :: st => if y = 0 then none else nx (i + 1) ls (.int (f x y) :: st) σ
  | _ => none
def p2 (f : Int64 → Int64 → Int64) (i : Nat) (ls st : List Value) (σ : mSt) : mRes := match st with
  | .long y :: .long x :: st => nx (i + 1) ls (.long (f x y) :: st) σ
  | _ => none
def p2d (f : Int64 → Int64 → Int64) (i : Nat) (ls st : List Value) (σ : mSt) : mRes := match st with
  | .long y :: .long x :: st => if y = 0 then none else nx (i + 1) ls (.long (f x y) :: st) σ
  | _ => none
def o1 (f : Int32 → Value) (i : Nat) (ls st : List Value) (σ : mSt) : mRes := match st with
  | .int x :: st => nx (i + 1) ls (f x :: st) σ
  | _ => none
def p1 (f : Int64 → Value) (i : Nat) (ls st : List Value) (σ : mSt) : mRes := match st with
  | .long x :: st => nx (i + 1) ls (f x :: st) σ
  | _ => none
def doSw (i : Nat) (d lo hi : Int) (offs : Array Int) (ls st : List Value) (σ : mSt) : mRes := match st with
  | .int x :: st => if x.toInt < lo ∨ hi < x.toInt then jp i d ls st σ else match offs[(x.toInt - lo).toNat]? with
    | some off => jp i off ls st σ
    | none => none
  | _ => none
def doLk (i : Nat) (d : Int) (ps : Array (Int × Int)) (ls st : List Value) (σ : mSt) : mRes := match st with
  | .int x :: st => if (ps.toList.zip (ps.toList.drop 1)).all (fun (a, next) => a.1 < next.1) = true then jp i (Op.lookupswitch.offset ps.toList d x.toInt) ls st σ else none
  | _ => none
def doAld (E : mEn) (i : Nat) (ls st : List Value) (σ : mSt) : mRes := match st with
  | .int j :: .ref o :: st => (match iRow E σ o with
    | some (n, f) => if mOut j n = true then none else nx (i + 1) ls (.int (f j.toNatClampNeg) :: st) σ
    | none => none)
  | _ => none
def doAst (i : Nat) (ls st : List Value) (σ : mSt) : mRes := match st with
  | .int x :: .int j :: .ref o :: st => (match mS0[o]? with
    | some (0, n, _) => if mOut j n = true then none else nx (i + 1) ls st (sI σ o j.toNatClampNeg x)
    | _ => none)
  | _ => none
def doBld (i : Nat) (ls st : List Value) (σ : mSt) : mRes := match st with
  | .int j :: .ref o :: st => (match mS0[o]? with
    | some (1, n, _) => if mOut j n = true then none else nx (i + 1) ls (.int (σ.1 o j.toNatClampNeg) :: st) σ
    | some (2, n, _) => if mOut j n = true then none else nx (i + 1) ls (.int (σ.1 o j.toNatClampNeg) :: st) σ
    | _ => none)
  | _ => none
def doBst (i : Nat) (ls st : List Value) (σ : mSt) : mRes := match st with
  | .int x :: .int j :: .ref o :: st => (match mS0[o]? with
    | some (1, n, _) => if mOut j n = true then none else nx (i + 1) ls st (sI σ o j.toNatClampNeg (vp_nar .byte x))
    | some (2, n, _) => if mOut j n = true then none else nx (i + 1) ls st (sI σ o j.toNatClampNeg (vp_nar .boolean x))
    | _ => none)
  | _ => none
def doLld (i : Nat) (ls st : List Value) (σ : mSt) : mRes := match st with
  | .int j :: .ref o :: st => (match mS0[o]? with
    | some (3, n, _) => if mOut j n = true then none else nx (i + 1) ls (.long (σ.2 o j.toNatClampNeg) :: st) σ
    | _ => none)
  | _ => none
def doLst (i : Nat) (ls st : List Value) (σ : mSt) : mRes := match st with
  | .long x :: .int j :: .ref o :: st => (match mS0[o]? with
    | some (3, n, _) => if mOut j n = true then none else nx (i + 1) ls st (sL σ o j.toNatClampNeg x)
    | _ => none)
  | _ => none
def doQld (i : Nat) (ls st : List Value) (σ : mSt) : mRes := match st with
  | .int j :: .ref o :: st => (match mS0[o]? with
    | some (4, n, fl) => if mOut j n = true then none else (match fl[j.toNatClampNeg]? with
      | some r => nx (i + 1) ls (.ref r :: st) σ
      | none => none)
    | _ => none)
  | _ => none
def doRet (M : mM) (st : List Value) : mRes := match st with
  | [.int v] => if mR M = some .int then some (.inr (.inr (some (.int v)))) else if mR M = some .boolean ∧ (v = 0 ∨ v = 1) then some (.inr (.inr (some (.int v)))) else none
  | _ => none
def doRetJ (M : mM) (st : List Value) : mRes := match st with
  | [.long v] => if mR M = some .long then some (.inr (.inr (some (.long v)))) else none
  | _ => none
def doRetV (M : mM) (st : List Value) : mRes := match st with
  | [] => if mR M = none then some (.inr (.inr none)) else none
  | _ => none
def doDup (i : Nat) (ls st : List Value) (σ : mSt) : mRes := match st with
  | v :: st => if v.category = 1 then nx (i + 1) ls (v :: v :: st) σ else none
  | _ => none
def doDup2 (i : Nat) (ls st : List Value) (σ : mSt) : mRes := match st with
  | v :: w :: st => if v.category = 1 ∧ w.category = 1 then nx (i + 1) ls (v :: w :: v :: w :: st) σ else none
  | _ => none
def doPop (i : Nat) (ls st : List Value) (σ : mSt) : mRes := match st with
  | v :: st => if v.category = 1 then nx (i + 1) ls st σ else none
  | _ => none
def doIinc (i k : Nat) (n : Int) (ls st : List Value) (σ : mSt) : mRes := match ls[k]? with
  | some (.int v) => nx (i + 3) (lst1 ls k (.int (v + Int32.ofInt n))) st σ
  | _ => none
def doLen (E : mEn) (i : Nat) (ls st : List Value) (σ : mSt) : mRes := match st with
  | .ref o :: st => (match aLen E o with
    | some n => nx (i + 1) ls (.int (Int32.ofNat n) :: st) σ
    | none => none)
  | _ => none
def doLdc (M : mM) (idx i : Nat) (ls st : List Value) (σ : mSt) : mRes := match mRz (mK M) idx with
  | some (.inr (.inr (.inl v))) => nx i ls (.int v :: st) σ
  | _ => none
def doLdc2 (M : mM) (idx i : Nat) (ls st : List Value) (σ : mSt) : mRes := match mRz (mK M) idx with
  | some (.inr (.inr (.inr (.inl v)))) => nx i ls (.long v :: st) σ
  | _ => none
def doGets (M : mM) (idx i : Nat) (ls st : List Value) (σ : mSt) : mRes := match mRz (mK M) idx with
  | some (.inr (.inr (.inr (.inr 1)))) => nx (i + 3) ls (.ref 1001 :: st) σ
  | _ => none
def doNull (i : Nat) (ls st : List Value) (σ : mSt) : mRes := match st with
  | .ref _ :: st => nx (i + 3) ls st σ
  | _ => none
def doIf (i : Nat) (c : ClassFile.Cond) (off : Int) (ls st : List Value) (σ : mSt) : mRes := match st with
  | .int x :: st => br i off (cm0 c x = true) ls st σ
  | _ => none
def doIf2 (i : Nat) (c : ClassFile.Cond) (off : Int) (ls st : List Value) (σ : mSt) : mRes := match st with
  | .int y :: .int x :: st => br i off (cm2 c x y = true) ls st σ
  | _ => none
def doShl (i : Nat) (ls st : List Value) (σ : mSt) : mRes := match st with
  | .int y :: .long x :: st => nx (i + 1) ls (.long (x <<< (y.toInt64 &&& 63)) :: st) σ
  | _ => none
def doLcmp (i : Nat) (ls st : List Value) (σ : mSt) : mRes := match st with
  | .long y :: .long x :: st => nx (i + 1) ls (.int (lg_cmp x y) :: st) σ
  | _ => none
/-- one instruction -/
def stpI (E : mEn) (M : mM) (ins : Instr) (len i : Nat) (ls st : List Value) (σ : mSt) : mRes := match ins with
  | .aload_n k => if len = 1 then ldA (i + 1) k ls st σ else none
  | .iload_n k => if len = 1 then ldI (i + 1) k ls st σ else none
  | .lload_n k => if len = 1 then ldJ (i + 1) k ls st σ else none
  | .aload k => if len = 2 then ldA (i + 2) k ls st σ else none
  | .iload k => if len = 2 then ldI (i + 2) k ls st σ else none
  | .lload k => if len = 2 then ldJ (i + 2) k ls st σ else none
  | .astore_n k => if len = 1 then stA (i + 1) k ls st σ else none
  | .istore_n k => if len = 1 then stI (i + 1) k ls st σ else none
  | .lstore_n k => if len = 1 then stJ (i + 1) k ls st σ else none
  | .astore k => if len = 2 then stA (i + 2) k ls st σ else none
  | .istore k => if len = 2 then stI (i + 2) k ls st σ else none
  | .lstore k => if len = 2 then stJ (i + 2) k ls st σ else none
  | .iinc k n => if len = 3 then doIinc i k n ls st σ else none
  | .iconst n => if len = 1 then nx (i + 1) ls (.int (Int32.ofInt n) :: st) σ else none
  | .bipush n => if len = 2 then nx (i + 2) ls (.int (Int8.ofInt n).toInt32 :: st) σ else none
  | .sipush n => if len = 3 then nx (i + 3) ls (.int (Int16.ofInt n).toInt32 :: st) σ else none
  | .lconst n => if len = 1 then nx (i + 1) ls (.long (Int64.ofNat n) :: st) σ else none
  | .ldc idx => if len = 2 then doLdc M idx (i + 2) ls st σ else none
  | .ldc_w idx => if len = 3 then doLdc M idx (i + 3) ls st σ else none
  | .ldc2_w idx => if len = 3 then doLdc2 M idx (i + 3) ls st σ else none
  | .iadd => if len = 1 then o2 (fun x y => x + y) i ls st σ else none
  | .isub => if len = 1 then o2 (fun x y => x - y) i ls st σ else none
  | .imul => if len = 1 then o2 (fun x y => x * y) i ls st σ else none
  | .iand => if len = 1 then o2 (fun x y => x &&& y) i ls st σ else none
  | .ior => if len = 1 then o2 (fun x y => x ||| y) i ls st σ else none
  | .ixor => if len = 1 then o2 (fun x y => x ^^^ y) i ls st σ else none
  | .ishl => if len = 1 then o2 (fun x y => x <<< (y &&& 31)) i ls st σ else none
  | .ishr => if len = 1 then o2 (fun x y => x >>> (y &&& 31)) i ls st σ else none
  | .idiv => if len = 1 then o2d (fun x y => x / y) i ls st σ else none
  | .irem => if len = 1 then o2d (fun x y => x - x / y * y) i ls st σ else none
  | .ineg => if len = 1 then o1 (fun x => .int (-x)) i ls st σ else none
  | .i2l => if len = 1 then o1 (fun x => .long x.toInt64) i ls st σ else none
  | .i2b => if len = 1 then o1 (fun x => .int x.toInt8.toInt32) i ls st σ else none
  | .i2s => if len = 1 then o1 (fun x => .int x.toInt16.toInt32) i ls st σ else none
  | .l2i => if len = 1 then p1 (fun x => .int x.toInt32) i ls st σ else none
  | .ladd => if len = 1 then p2 (fun x y => x + y) i ls st σ else none
  | .lsub => if len = 1 then p2 (fun x y => x - y) i ls st σ else none
  | .lmul => if len = 1 then p2 (fun x y => x * y) i ls st σ else none
  | .land => if len = 1 then p2 (fun x y => x &&& y) i ls st σ else none
  | .lor => if len = 1 then p2 (fun x y => x ||| y) i ls st σ else none
  | .ldiv => if len = 1 then p2d (fun x y => x / y) i ls st σ else none
  | .lrem => if len = 1 then p2d (fun x y => x - x / y * y) i ls st σ else none
  | .lshl => if len = 1 then doShl i ls st σ else none
  | .lcmp => if len = 1 then doLcmp i ls st σ else none
  | .ifCond c off => if len = 3 then doIf i c off ls st σ else none
  | .if_icmp c off => if len = 3 then doIf2 i c off ls st σ else none
  | .goto off => if len = 3 then jp i off ls st σ else none
  | .ifnull _ => if len = 3 then doNull i ls st σ else none
  | .tableswitch d lo hi offs => doSw i d lo hi offs ls st σ
  | .lookupswitch d ps => doLk i d ps ls st σ
  | .dup => if len = 1 then doDup i ls st σ else none
  | .dup2 => if len = 1 then doDup2 i ls st σ else none
  | .pop => if len = 1 then doPop i ls st σ else none
  | .arraylength => if len = 1 then doLen E i ls st σ else none
  | .iaload => if len = 1 then doAld E i ls st σ else none
  | .iastore => if len = 1 then doAst i ls st σ else none
  | .baload => if len = 1 then doBld i ls st σ else none
  | .bastore => if len = 1 then doBst i ls st σ else none
  | .laload => if len = 1 then doLld i ls st σ else none
  | .lastore => if len = 1 then doLst i ls st σ else none
  | .aaload => if len = 1 then doQld i ls st σ else none
  | .getfield idx => if len = 3 then doGet M idx i ls st σ else none
  | .putfield idx => if len = 3 then doPut M idx i ls st σ else none
  | .getstatic idx => if len = 3 then doGets M idx i ls st σ else none
  | .invokestatic idx => if len = 3 then doStat M idx i ls st σ else none
  | .invokevirtual idx => if len = 3 then doVirt M idx i ls st else none
  | .ireturn => if len = 1 then doRet M st else none
  | .lreturn => if len = 1 then doRetJ M st else none
  | .return_ => if len = 1 then doRetV M st else none
  | _ => none
def stp (E : mEn) (M : mM) (i : Nat) (ls st : List Value) (σ : mSt) : mRes := match decode (mC M) i with
  | .ok (ins, len) => stpI E M ins len i ls st σ
  | .error _ => none
abbrev mPost : Type := Option Value → mSt → Prop
abbrev mCS : Type := mM → List Value → mSt → mPost → Prop
def exS (cs : mCS) (Q : mPost) (X : Nat → List Value → List Value → mSt → Prop) (σ : mSt) : mRes → Prop
  | none => False
  | some (.inl (i, ls, st, σ')) => X i ls st σ'
  | some (.inr (.inl (M', vs, i, ls, st))) => cs M' vs σ (fun r σ' => X i ls (r.toList ++ st) σ')
  | some (.inr (.inr r)) => Q r σ
/-- the least predicate that is closed under steps -/
def lfpE (E : mEn) (cs : mCS) (M : mM) (Q : mPost) (i : Nat) (ls st : List Value) (σ : mSt) : Prop :=
  ∀ X : Nat → List Value → List Value → mSt → Prop, (∀ i ls st σ, exS cs Q X σ (stp E M i ls st σ) → X i ls st σ) → X i ls st σ
def csD (W0 : mM → Nat → List Value → List Value → mSt → mPost → Prop) : mCS := fun M' vs σ P => W0 M' 0 (ent (mL M') vs) [] σ P
def WP (E : mEn) : Nat → mM → Nat → List Value → List Value → mSt → mPost → Prop
  | 0 => fun M i ls st σ Q => lfpE E (fun _ _ _ _ => False) M Q i ls st σ
  | d + 1 => fun M i ls st σ Q => lfpE E (csD (WP E d)) M Q i ls st σ
def csE (E : mEn) : Nat → mCS
  | 0 => fun _ _ _ _ => False
  | d + 1 => csD (WP E d)
theorem WP_lfp (E : mEn) (d : Nat) (M : mM) (i : Nat) (ls st : List Value) (σ : mSt) (Q : mPost) : WP E d M i ls st σ Q = lfpE E (csE E d) M Q i ls st σ := by
  cases d <;> rfl
theorem lfp_mono {E : mEn} {cs : mCS} {M : mM} {Q Q' : mPost} (h : ∀ r σ, Q r σ → Q' r σ) {i : Nat} {ls st : List Value} {σ : mSt} (w : lfpE E cs M Q i ls st σ) : lfpE E cs M Q' i ls st σ := by
  intro X hX
  refine w X (fun i ls st σ hx => hX i ls st σ ?_)
  generalize stp E M i ls st σ = r at hx ⊢
  match r with
  | none => exact hx
  | some (.inl _) => exact hx
  | some (.inr (.inl _)) => exact hx
  | some (.inr (.inr r)) => exact h _ _ hx
theorem WP_mono {E : mEn} {d : Nat} {M : mM} {Q Q' : mPost} (h : ∀ r σ, Q r σ → Q' r σ) {i : Nat} {ls st : List Value} {σ : mSt} (w : WP E d M i ls st σ Q) : WP E d M i ls st σ Q' := by
  rw [WP_lfp] at w ⊢
  exact lfp_mono h w
theorem cs_mono {E : mEn} {d : Nat} {M : mM} {vs : List Value} {σ : mSt} {P P' : mPost} (h : ∀ r σ, P r σ → P' r σ) (w : csE E d M vs σ P) : csE E d M vs σ P' := by
  cases d with
  | zero => exact w
  | succ d => exact WP_mono h w
theorem ex_mono {E : mEn} {d : Nat} {Q : mPost} {X Y : Nat → List Value → List Value → mSt → Prop} (h : ∀ i ls st σ, X i ls st σ → Y i ls st σ) {σ : mSt} {r : mRes} (w : exS (csE E d) Q X σ r) : exS (csE E d) Q Y σ r := by
  match r with
  | none => exact w
  | some (.inl _) => exact h _ _ _ _ w
  | some (.inr (.inl _)) => exact cs_mono (fun r σ hx => h _ _ _ _ hx) w
  | some (.inr (.inr r)) => exact w
theorem WP_fold {E : mEn} {d : Nat} {M : mM} {Q : mPost} {i : Nat} {ls st : List Value} {σ : mSt} (w : exS (csE E d) Q (fun i ls st σ => WP E d M i ls st σ Q) σ (stp E M i ls st σ)) : WP E d M i ls st σ Q := by
  rw [WP_lfp]
  intro X hX
  refine hX _ _ _ _ (ex_mono (fun i ls st σ hw => ?_) w)
  rw [WP_lfp] at hw
  exact hw X hX
theorem WP_unf {E : mEn} {d : Nat} {M : mM} {Q : mPost} {i : Nat} {ls st : List Value} {σ : mSt} (w : WP E d M i ls st σ Q) : exS (csE E d) Q (fun i ls st σ => WP E d M i ls st σ Q) σ (stp E M i ls st σ) := by
  rw [WP_lfp] at w
  exact w (fun i ls st σ => exS (csE E d) Q (fun i ls st σ => WP E d M i ls st σ Q) σ (stp E M i ls st σ)) (fun i ls st σ hx => ex_mono (fun i ls st σ hy => WP_fold hy) hx)
theorem WP_eq {E : mEn} {d : Nat} {M : mM} {Q : mPost} {i : Nat} {ls st : List Value} {σ : mSt} : WP E d M i ls st σ Q = exS (csE E d) Q (fun i ls st σ => WP E d M i ls st σ Q) σ (stp E M i ls st σ) := propext ⟨WP_unf, WP_fold⟩
end
section
/-! What the machine says is so of the JVM: instruction by instruction over the kit's rows. -/
def cv (ad : Nat → Nat) : Value → Value
  | .ref a => .ref (ad a)
  | v => v
theorem cv_cat (ad : Nat → Nat) (v : Value) : (cv ad v).category = v.category := by cases v <;> rfl
def mFld (ad : Nat → Nat) (σ : mSt) (k j e : Nat) : Value := match e with
  | 0 => .int (σ.1 k j)
  | 1 => .long (σ.2 k j)
  | r + 2 => .ref (ad r)
def mCell (ad : Nat → Nat) (cA : Nat → ClassId) (σ : mSt) (k : Nat) (sh : mSh) : va_E :=
  if sh.1 < 3 then .inl (cA k, sh.2.1, .inl (σ.1 k))
  else if sh.1 = 3 then .inl (cA k, sh.2.1, .inr (.inl (σ.2 k)))
  else if sh.1 = 4 then .inl (cA k, sh.2.1, .inr (.inr (.inr (.inr (fun j => (sh.2.2[j]?).map ad)))))
  else .inr (sh.2.1, sh.2.2.mapIdx (fun j e => mFld ad σ k j e))
def mWs (ad : Nat → Nat) (cA : Nat → ClassId) (σ : mSt) : va_W := mS0.mapIdx (fun k sh => (ad k, mCell ad cA σ k sh))
theorem mWs_at {ad : Nat → Nat} {cA : Nat → ClassId} {σ : mSt} {k : Nat} {sh : mSh} (h : mS0[k]? = some sh) : (mWs ad cA σ)[k]? = some (ad k, mCell ad cA σ k sh) := by
  simp only [mWs, List.getElem?_mapIdx, h, Option.map_some]
theorem mCell_congr {ad : Nat → Nat} {cA : Nat → ClassId} {σ τ : mSt} {k : Nat} {sh : mSh} (h1 : σ.1 k = τ.1 k) (h2 : σ.2 k = τ.2 k) : mCell ad cA σ k sh = mCell ad cA τ k sh := by
  unfold mCell mFld
  rw [h1, h2]
theorem mWs_upd {ad : Nat → Nat} {cA : Nat → ClassId} {σ τ : mSt} {o : Nat} {sh : mSh} (h : mS0[o]? = some sh) (h1 : ∀ k, k ≠ o → τ.1 k = σ.1 k) (h2 : ∀ k, k ≠ o → τ.2 k = σ.2 k) : (mWs ad cA σ).set o (ad o, mCell ad cA τ o sh) = mWs ad cA τ := by
  apply List.ext_getElem?
  intro j
  have hl : o < (mWs ad cA σ).length := (List.getElem?_eq_some_iff.mp (mWs_at h)).1
  by_cases hj : j = o
  · subst hj
    rw [List.getElem?_set_self hl, mWs_at h]
  · rw [List.getElem?_set_ne (Ne.symm hj)]
    simp only [mWs, List.getElem?_mapIdx]
    cases mS0[j]? with
    | none => rfl
    | some q => simp only [Option.map_some]; rw [mCell_congr (h1 j hj).symm (h2 j hj).symm]
theorem sI_1 {σ : mSt} {o k : Nat} {v : Int32} {j : Nat} (h : j ≠ o) : (sI σ o k v).1 j = σ.1 j := by
  funext b; simp [sI, h]
theorem sL_2 {σ : mSt} {o k : Nat} {v : Int64} {j : Nat} (h : j ≠ o) : (sL σ o k v).2 j = σ.2 j := by
  funext b; simp [sL, h]
theorem sI_u {σ : mSt} {o k : Nat} {v : Int32} : (sI σ o k v).1 o = upd (σ.1 o) k v := by
  funext b; simp [sI, upd]
theorem sL_u {σ : mSt} {o k : Nat} {v : Int64} : (sL σ o k v).2 o = vp_updL (σ.2 o) k v := by
  funext b; simp [sL, vp_updL]
theorem cpI_1 {σ : mSt} {a b sp dp n j : Nat} (h : j ≠ b) : (cpI σ a b sp dp n).1 j = σ.1 j := by
  funext k; simp [cpI, h]
theorem cpL_2 {σ : mSt} {a b sp dp n j : Nat} (h : j ≠ b) : (cpL σ a b sp dp n).2 j = σ.2 j := by
  funext k; simp [cpL, h]
theorem cpI_u {σ : mSt} {a b sp dp n : Nat} : (cpI σ a b sp dp n).1 b = va_cpy (σ.1 a) (σ.1 b) sp dp n := by
  funext k; simp [cpI]
theorem cpL_u {σ : mSt} {a b sp dp n : Nat} : (cpL σ a b sp dp n).2 b = va_cpy (σ.2 a) (σ.2 b) sp dp n := by
  funext k; simp [cpL]
theorem mCell_i {ad : Nat → Nat} {cA : Nat → ClassId} {σ : mSt} {k t n : Nat} {fl : List Nat} (h : t < 3) : mCell ad cA σ k (t, n, fl) = .inl (cA k, n, .inl (σ.1 k)) := if_pos h
theorem mCell_l {ad : Nat → Nat} {cA : Nat → ClassId} {σ : mSt} {k n : Nat} {fl : List Nat} : mCell ad cA σ k (3, n, fl) = .inl (cA k, n, .inr (.inl (σ.2 k))) := rfl
theorem mCell_q {ad : Nat → Nat} {cA : Nat → ClassId} {σ : mSt} {k n : Nat} {fl : List Nat} : mCell ad cA σ k (4, n, fl) = .inl (cA k, n, .inr (.inr (.inr (.inr (fun j => (fl[j]?).map ad))))) := rfl
theorem mCell_o {ad : Nat → Nat} {cA : Nat → ClassId} {σ : mSt} {k n : Nat} {fl : List Nat} : mCell ad cA σ k (5, n, fl) = .inr (n, fl.mapIdx (fun j e => mFld ad σ k j e)) := rfl
theorem mFl_at {ad : Nat → Nat} {σ : mSt} {o k e : Nat} {fl : List Nat} (h : fl[k]? = some e) : (fl.mapIdx (fun j e => mFld ad σ o j e))[k]? = some (mFld ad σ o k e) := by
  simp only [List.getElem?_mapIdx, h, Option.map_some]
theorem mFl_setI {ad : Nat → Nat} {σ : mSt} {o k : Nat} {v : Int32} {fl : List Nat} (h : fl[k]? = some 0) : (fl.mapIdx (fun j e => mFld ad σ o j e)).set k (.int v) = fl.mapIdx (fun j e => mFld ad (sI σ o k v) o j e) := by
  apply List.ext_getElem?
  intro j
  have hl : k < (fl.mapIdx (fun j e => mFld ad σ o j e)).length := (List.getElem?_eq_some_iff.mp (mFl_at h)).1
  by_cases hj : j = k
  · subst hj
    rw [List.getElem?_set_self hl, mFl_at h]
    simp [mFld, sI]
  · rw [List.getElem?_set_ne (Ne.symm hj)]
    simp only [List.getElem?_mapIdx]
    cases fl[j]? with
    | none => rfl
    | some e =>
      simp only [Option.map_some]
      match e with
      | 0 => simp [mFld, sI, hj]
      | 1 => simp [mFld, sI]
      | r + 2 => rfl
theorem mFl_setL {ad : Nat → Nat} {σ : mSt} {o k : Nat} {v : Int64} {fl : List Nat} (h : fl[k]? = some 1) : (fl.mapIdx (fun j e => mFld ad σ o j e)).set k (.long v) = fl.mapIdx (fun j e => mFld ad (sL σ o k v) o j e) := by
  apply List.ext_getElem?
  intro j
  have hl : k < (fl.mapIdx (fun j e => mFld ad σ o j e)).length := (List.getElem?_eq_some_iff.mp (mFl_at h)).1
  by_cases hj : j = k
  · subst hj
    rw [List.getElem?_set_self hl, mFl_at h]
    simp [mFld, sL]
  · rw [List.getElem?_set_ne (Ne.symm hj)]
    simp only [List.getElem?_mapIdx]
    cases fl[j]? with
    | none => rfl
    | some e =>
      simp only [Option.map_some]
      match e with
      | 0 => simp [mFld, sL]
      | 1 => simp [mFld, sL, hj]
      | r + 2 => rfl
def mTyA (t : Nat) : FieldType := match t with
  | 0 => .int
  | 1 => .byte
  | 2 => .boolean
  | 3 => .long
  | _ => .object "PaperBread$Town"
def mExt (ad : Nat → Nat) (A : Nat → Prop) (E : mEn) (U : State) (H : Heap) : Prop := va_X (ad 1000) E.1 E.2 U H ∧ ad 1000 < H.size ∧ ¬ A (ad 1000) ∧ va_X (ad 1001) 4 mStarts U H ∧ ad 1001 < H.size ∧ ¬ A (ad 1001) ∧ va_Z "PaperBread$Names" "STARTS" "[I" (.ref (ad 1001)) A U H
def mTys (tys : List (ClassId × FieldType)) (cA : Nat → ClassId) : Prop := ∀ (k : Nat) (sh : mSh), mS0[k]? = some sh → sh.1 < 5 → ∃ t0 : Nat, tys[t0]? = some (cA k, mTyA sh.1)
def mWd (D : va_G) (tys : List (ClassId × FieldType)) (ad : Nat → Nat) (cA : Nat → ClassId) (A : Nat → Prop) (E : mEn) (σ : mSt) (U : State) : Prop := va_P D vwCl (mWs ad cA σ) U.heap ∧ va_D A (mWs ad cA σ) ∧ va_K D vwCl tys U ∧ mTys tys cA ∧ mExt ad A E U U.heap
def mWo (D : va_G) (ad : Nat → Nat) (cA : Nat → ClassId) (A : Nat → Prop) (H0 : Heap) (σ : mSt) (H : Heap) (locs : List Loc) : Prop := va_P D vwCl (mWs ad cA σ) H ∧ va_D A (mWs ad cA σ) ∧ va_S A H0 H locs
def mLoc (ad : Nat → Nat) (n : Nat) (ls : List Value) (lsr : Array Slot) : Prop := ls.length = n ∧ lsr.size = n ∧ lv_wf lsr ∧ ∀ (i : Nat) (v : Value), ls[i]? = some v → kn v = true → lsr[i]? = some (.val (cv ad v))
def mCx (p : Program) (R : Room) (s : State) (m : MethodId) (args : Array Value) (c : Code) (cells slots : Nat) (D : va_G) (tys : List (ClassId × FieldType)) (ad : Nat → Nat) (cA : Nat → ClassId) (A : Nat → Prop) (E : mEn) (M : mM) : Prop :=
  p.tables.exec = Jvm.exec ∧ c.code = mC M ∧ c.maxLocals = mL M ∧ s.vm.findClass (mY M).cls = some m.cls ∧ mCN[mK M]? = some (mY M).cls ∧ (∀ w ∈ mTB, w.before args s = true) ∧ va_K D vwCl tys s ∧ mTys tys cA ∧ mExt ad A E s s.heap ∧ cells ≤ R.cells ∧ slots ≤ R.slots ∧ 1 ≤ R.frames ∧ 64 ≤ R.locals
def mAs (ad : Nat → Nat) (ls : List Value) : List (Nat × Value) := (List.range ls.length).filterMap (fun i => match ls[i]? with
  | some v => if kn v = true then some (i, cv ad v) else none
  | none => none)
theorem mAs_mem {ad : Nat → Nat} {ls : List Value} {i : Nat} {v : Value} (h : ls[i]? = some v) (hk : kn v = true) : (i, cv ad v) ∈ mAs ad ls := by
  refine List.mem_filterMap.mpr ⟨i, List.mem_range.mpr (List.getElem?_eq_some_iff.mp h).1, ?_⟩
  simp [h, hk]
theorem mAs_of {ad : Nat → Nat} {ls : List Value} {q : Nat × Value} (h : q ∈ mAs ad ls) : ∃ v, ls[q.1]? = some v ∧ kn v = true ∧ q.2 = cv ad v := by
  obtain ⟨i, -, hi⟩ := List.mem_filterMap.mp h
  cases hv : ls[i]? with
  | none => rw [hv] at hi; cases hi
  | some v =>
    rw [hv] at hi
    by_cases hk : kn v = true
    · simp only [hk, if_true, Option.some.injEq] at hi
      subst hi
      exact ⟨v, hv, hk, rfl⟩
    · simp [hk] at hi
theorem mLoc_has {ad : Nat → Nat} {n : Nat} {ls : List Value} {lsr : Array Slot} (h : mLoc ad n ls lsr) : lv_has lsr n (mAs ad ls) := by
  refine ⟨h.2.1, h.2.2.1, fun q hq => ?_⟩
  obtain ⟨v, h1, h2, h3⟩ := mAs_of hq
  rw [h3]
  exact h.2.2.2 _ _ h1 h2
theorem lst1_len : ∀ (ls : List Value) (i : Nat) (v : Value), (lst1 ls i v).length = ls.length
  | [], _, _ => rfl
  | _ :: _, 0, _ => rfl
  | _ :: t, 1, v => by simp only [lst1, List.length_cons]; rw [lst1_len t 0 v]
  | _ :: t, n + 2, v => by simp only [lst1, List.length_cons]; rw [lst1_len t (n + 1) v]
theorem lst1_get : ∀ (ls : List Value) (i : Nat) (v : Value) (j : Nat) (w : Value), (lst1 ls i v)[j]? = some w → (j = i ∧ w = v) ∨ (j + 1 = i ∧ ∃ u, ls[j]? = some u ∧ w = clr u) ∨ (j ≠ i ∧ j + 1 ≠ i ∧ ls[j]? = some w)
  | [], _, _, j, w, h => by simp [lst1] at h
  | a :: t, 0, v, j, w, h => by
    cases j with
    | zero => simp [lst1] at h; exact Or.inl ⟨rfl, h.symm⟩
    | succ j => simp [lst1] at h; exact Or.inr (Or.inr ⟨by omega, by omega, by simpa using h⟩)
  | a :: t, 1, v, j, w, h => by
    cases j with
    | zero => simp [lst1] at h; exact Or.inr (Or.inl ⟨rfl, a, by simp, h.symm⟩)
    | succ j =>
      simp only [lst1, List.getElem?_cons_succ] at h
      rcases lst1_get t 0 v j w h with ⟨h1, h2⟩ | ⟨h1, -⟩ | ⟨h1, h2, h3⟩
      · exact Or.inl ⟨by omega, h2⟩
      · omega
      · exact Or.inr (Or.inr ⟨by omega, by omega, by simpa using h3⟩)
  | a :: t, n + 2, v, j, w, h => by
    cases j with
    | zero => simp [lst1] at h; exact Or.inr (Or.inr ⟨by omega, by omega, by simp [h]⟩)
    | succ j =>
      simp only [lst1, List.getElem?_cons_succ] at h
      rcases lst1_get t (n + 1) v j w h with ⟨h1, h2⟩ | ⟨h1, u, h2, h3⟩ | ⟨h1, h2, h3⟩
      · exact Or.inl ⟨by omega, h2⟩
      · exact Or.inr (Or.inl ⟨by omega, u, by simpa using h2, h3⟩)
      · exact Or.inr (Or.inr ⟨by omega, by omega, by simpa using h3⟩)
theorem clr_kn {u : Value} (h : kn (clr u) = true) : clr u = u ∧ u.category = 1 := by cases u <;> simp [clr, kn, Value.category] at h ⊢
/-- behind a store of one word -/
theorem mLoc_st1 {ad : Nat → Nat} {n i : Nat} {v : Value} {ls : List Value} {lsr lsr' : Array Slot} (h : mLoc ad n ls lsr) (h' : lv_has lsr' n ((i, cv ad v) :: (mAs ad ls).filter (fun q => !(q.1 == i) && !(q.1 + 1 == i && q.2.category == 2)))) : mLoc ad n (lst1 ls i v) lsr' := by
  refine ⟨by rw [lst1_len]; exact h.1, h'.1, h'.2.1, fun j w hj hk => ?_⟩
  rcases lst1_get ls i v j w hj with ⟨h1, h2⟩ | ⟨h1, u, h2, h3⟩ | ⟨h1, h2, h3⟩
  · subst h1; subst h2
    exact h'.2.2 (j, cv ad w) List.mem_cons_self
  · subst h3
    obtain ⟨e1, e2⟩ := clr_kn hk
    rw [e1] at hk ⊢
    refine h'.2.2 (j, cv ad u) (List.mem_cons_of_mem _ (List.mem_filter.mpr ⟨mAs_mem h2 hk, ?_⟩))
    have h4 : j ≠ i := by omega
    simp [h4, cv_cat, e2]
  · refine h'.2.2 (j, cv ad w) (List.mem_cons_of_mem _ (List.mem_filter.mpr ⟨mAs_mem h3 hk, ?_⟩))
    simp [h1, h2]
theorem mLoc_st2 {ad : Nat → Nat} {n i : Nat} {v : Value} {ls : List Value} {lsr lsr' : Array Slot} (h : mLoc ad n ls lsr) (h' : lv_has lsr' n ((i, cv ad v) :: (mAs ad ls).filter (fun q => !(q.1 == i) && (!(q.1 == i + 1) && !(q.1 + 1 == i && q.2.category == 2))))) : mLoc ad n (lst2 ls i v) lsr' := by
  refine ⟨by rw [lst2, List.length_set, lst1_len]; exact h.1, h'.1, h'.2.1, fun j w hj hk => ?_⟩
  unfold lst2 at hj
  by_cases hj1 : j = i + 1
  · subst hj1
    rw [List.getElem?_set] at hj
    simp only [if_true] at hj
    split at hj
    · cases hj; simp [kn] at hk
    · cases hj
  rw [List.getElem?_set_ne (Ne.symm hj1)] at hj
  rcases lst1_get ls i v j w hj with ⟨h1, h2⟩ | ⟨h1, u, h2, h3⟩ | ⟨h1, h2, h3⟩
  · subst h1; subst h2
    exact h'.2.2 (j, cv ad w) List.mem_cons_self
  · subst h3
    obtain ⟨e1, e2⟩ := clr_kn hk
    rw [e1] at hk ⊢
    refine h'.2.2 (j, cv ad u) (List.mem_cons_of_mem _ (List.mem_filter.mpr ⟨mAs_mem h2 hk, ?_⟩))
    have h4 : j ≠ i := by omega
    simp [h4, hj1, cv_cat, e2]
  · refine h'.2.2 (j, cv ad w) (List.mem_cons_of_mem _ (List.mem_filter.mpr ⟨mAs_mem h3 hk, ?_⟩))
    simp [h1, h2, hj1]
theorem mOut_in {j : Int32} {n : Nat} (h : ¬ mOut j n = true) : vp_in j n := by
  intro h2
  apply h
  simp only [mOut, Bool.or_eq_true, decide_eq_true_eq]
  exact h2
theorem cats_cv (ad : Nat → Nat) (st : List Value) : ((st.map (cv ad)).map fun v => v.category).sum = cats st := by
  unfold cats
  rw [List.map_map]
  congr 1
  apply List.map_congr_left
  intro v _
  exact cv_cat ad v
end
section
theorem nx_inv {a : Nat} {b d : List Value} {f : mSt} {i' : Nat} {ls' st' : List Value} {σ' : mSt} (h : nx a b d f = some (.inl (i', ls', st', σ'))) : a = i' ∧ b = ls' ∧ d = st' ∧ f = σ' := by
  unfold nx at h
  cases h
  exact ⟨rfl, rfl, rfl, rfl⟩
theorem jp_inv {i : Nat} {off : Int} {ls st : List Value} {σ : mSt} {i' : Nat} {ls' st' : List Value} {σ' : mSt} (h : jp i off ls st σ = some (.inl (i', ls', st', σ'))) : (i : Int) + off = (i' : Int) ∧ ls = ls' ∧ st = st' ∧ σ = σ' := by
  unfold jp at h
  split at h
  · obtain ⟨h1, h2, h3, h4⟩ := nx_inv h
    exact ⟨by omega, h2, h3, h4⟩
  · cases h
theorem br_inv {i : Nat} {off : Int} {q : Prop} [Decidable q] {ls st : List Value} {σ : mSt} {i' : Nat} {ls' st' : List Value} {σ' : mSt} (h : br i off q ls st σ = some (.inl (i', ls', st', σ'))) : ∃ tgt : Nat, (i : Int) + off = (tgt : Int) ∧ (if q then tgt else i + 3) = i' ∧ ls = ls' ∧ st = st' ∧ σ = σ' := by
  unfold br at h
  split at h
  · obtain ⟨h1, h2, h3, h4⟩ := nx_inv h
    exact ⟨((i : Int) + off).toNat, by omega, h1, h2, h3, h4⟩
  · cases h
theorem lay_good {C : String} {T : u_T} {N : Nat} {w : Cond} (h : w ∈ u_ws C T N) : goodWord w = true := by
  obtain ⟨k, -, rfl⟩ := List.mem_map.mp h
  unfold u_lay
  split <;> rfl
theorem mLay : ∀ {ci : Nat} {C : String} {T : u_T} {N : Nat}, vwCl[ci]? = some (C, T, N) → (∀ w ∈ u_ws C T N, w ∈ mTB) ∧ (∀ k, (T k).1 = C) ∧ (∀ k, k < N → parseFieldDescriptor (T k).2.2.1 = some (mTyF ci k)) ∧ (∀ a, a < N → ∀ b, b < N → a ≠ b → (T a).2.1 ≠ (T b).2.1)
  | 0, C, T, N, h => by
    cases h
    exact ⟨fun w hw => List.mem_filter.mpr ⟨inX0 w hw, lay_good hw⟩, fun k => by unfold TX0; split <;> rfl, tyX0_ok, nmX0⟩
  | 1, C, T, N, h => by
    cases h
    exact ⟨fun w hw => List.mem_filter.mpr ⟨inX1 w hw, lay_good hw⟩, fun k => by unfold TX1; split <;> rfl, tyX1_ok, nmX1⟩
  | 2, C, T, N, h => by
    cases h
    exact ⟨fun w hw => List.mem_filter.mpr ⟨inX2 w hw, lay_good hw⟩, fun k => by unfold TX2; split <;> rfl, tyX2_ok, nmX2⟩
  | 3, C, T, N, h => by
    cases h
    exact ⟨fun w hw => List.mem_filter.mpr ⟨inX3 w hw, lay_good hw⟩, fun k => by unfold TX3; split <;> rfl, tyX3_ok, nmX3⟩
  | 4, C, T, N, h => by
    cases h
    exact ⟨fun w hw => List.mem_filter.mpr ⟨inX4 w hw, lay_good hw⟩, fun k => by unfold TX4; split <;> rfl, tyX4_ok, nmX4⟩
  | 5, C, T, N, h => by
    cases h
    exact ⟨fun w hw => List.mem_filter.mpr ⟨inX5 w hw, lay_good hw⟩, fun k => by unfold TX5; split <;> rfl, tyX5_ok, nmX5⟩
  | 6, C, T, N, h => by
    cases h
    exact ⟨fun w hw => List.mem_filter.mpr ⟨inX6 w hw, lay_good hw⟩, fun k => by unfold TX6; split <;> rfl, tyX6_ok, nmX6⟩
  | 7, C, T, N, h => by
    cases h
    exact ⟨fun w hw => List.mem_filter.mpr ⟨inX7 w hw, lay_good hw⟩, fun k => by unfold TX7; split <;> rfl, tyX7_ok, nmX7⟩
  | 8, C, T, N, h => by
    cases h
    exact ⟨fun w hw => List.mem_filter.mpr ⟨inX8 w hw, lay_good hw⟩, fun k => by unfold TX8; split <;> rfl, tyX8_ok, nmX8⟩
  | 9, C, T, N, h => by
    cases h
    exact ⟨fun w hw => List.mem_filter.mpr ⟨inX9 w hw, lay_good hw⟩, fun k => by unfold TX9; split <;> rfl, tyX9_ok, nmX9⟩
  | 10, C, T, N, h => by
    cases h
    exact ⟨fun w hw => List.mem_filter.mpr ⟨inX10 w hw, lay_good hw⟩, fun k => by unfold TX10; split <;> rfl, tyX10_ok, nmX10⟩
  | 11, C, T, N, h => by
    cases h
    exact ⟨fun w hw => List.mem_filter.mpr ⟨inX11 w hw, lay_good hw⟩, fun k => by unfold TX11; split <;> rfl, tyX11_ok, nmX11⟩
  | _ + 12, C, T, N, h => by simp at h
section STEP
variable {p : Program} {l : Launch} {e : Env} {R : Room} {s : State} {m : MethodId} {args : Array Value} {below : List Frame} {meth : Method} {c : Code} {cells slots : Nat} {Qm : State → Prop} {D : va_G} {tys : List (ClassId × FieldType)} {ad : Nat → Nat} {cA : Nat → ClassId} {A : Nat → Prop} {E : mEn} {M : mM} {i i' : Nat} {ls st ls' st' : List Value} {σ σ' : mSt}
def mG (p : Program) (l : Launch) (e : Env) (R : Room) (s : State) (m : MethodId) (args : Array Value) (below : List Frame) (meth : Method) (c : Code) (cells slots : Nat) (Qm : State → Prop) (D : va_G) (ad : Nat → Nat) (cA : Nat → ClassId) (A : Nat → Prop) (M : mM) (i : Nat) (ls st : List Value) (σ : mSt) : Prop :=
  ∀ (H : Heap) (locs : List Loc) (lsr : Array Slot), mWo D ad cA A s.heap σ H locs → mLoc ad (mL M) ls lsr → W p l e R s m args below meth c H locs cells slots Qm (F0 m i lsr (st.map (cv ad)))
theorem g_iload_n (C : mCx p R s m args c cells slots D tys ad cA A E M) {k0 : Fin 4} (hd : decode (mC M) i = .ok (.iload_n k0, 1)) (h : ldI (i + 1) k0 ls st σ = some (.inl (i', ls', st', σ'))) (k : mG p l e R s m args below meth c cells slots Qm D ad cA A M i' ls' st' σ') : mG p l e R s m args below meth c cells slots Qm D ad cA A M i ls st σ := by
  obtain ⟨hx, hb, hml, hown, hcn, hts, hK, hTy, hEx, hce, hsl, hfr, hlo⟩ := C
  intro H locs lsr hw hl
  unfold ldI at h
  split at h
  · rename_i v hv
    obtain ⟨rfl, rfl, rfl, rfl⟩ := nx_inv h
    exact lv_iload_n hx hb hd rfl (hl.2.2.2 _ _ hv rfl) (k H locs lsr hw hl)
  · cases h
theorem g_iload (C : mCx p R s m args c cells slots D tys ad cA A E M) {k0 : Nat} (hd : decode (mC M) i = .ok (.iload k0, 2)) (h : ldI (i + 2) k0 ls st σ = some (.inl (i', ls', st', σ'))) (k : mG p l e R s m args below meth c cells slots Qm D ad cA A M i' ls' st' σ') : mG p l e R s m args below meth c cells slots Qm D ad cA A M i ls st σ := by
  obtain ⟨hx, hb, hml, hown, hcn, hts, hK, hTy, hEx, hce, hsl, hfr, hlo⟩ := C
  intro H locs lsr hw hl
  unfold ldI at h
  split at h
  · rename_i v hv
    obtain ⟨rfl, rfl, rfl, rfl⟩ := nx_inv h
    exact lv_iload hx hb hd (hl.2.2.2 _ _ hv rfl) (k H locs lsr hw hl)
  · cases h
theorem g_lload_n (C : mCx p R s m args c cells slots D tys ad cA A E M) {k0 : Fin 4} (hd : decode (mC M) i = .ok (.lload_n k0, 1)) (h : ldJ (i + 1) k0 ls st σ = some (.inl (i', ls', st', σ'))) (k : mG p l e R s m args below meth c cells slots Qm D ad cA A M i' ls' st' σ') : mG p l e R s m args below meth c cells slots Qm D ad cA A M i ls st σ := by
  obtain ⟨hx, hb, hml, hown, hcn, hts, hK, hTy, hEx, hce, hsl, hfr, hlo⟩ := C
  intro H locs lsr hw hl
  unfold ldJ at h
  split at h
  · rename_i v hv
    obtain ⟨rfl, rfl, rfl, rfl⟩ := nx_inv h
    exact lv_lload_n hx hb hd rfl (hl.2.2.2 _ _ hv rfl) (k H locs lsr hw hl)
  · cases h
theorem g_lload (C : mCx p R s m args c cells slots D tys ad cA A E M) {k0 : Nat} (hd : decode (mC M) i = .ok (.lload k0, 2)) (h : ldJ (i + 2) k0 ls st σ = some (.inl (i', ls', st', σ'))) (k : mG p l e R s m args below meth c cells slots Qm D ad cA A M i' ls' st' σ') : mG p l e R s m args below meth c cells slots Qm D ad cA A M i ls st σ := by
  obtain ⟨hx, hb, hml, hown, hcn, hts, hK, hTy, hEx, hce, hsl, hfr, hlo⟩ := C
  intro H locs lsr hw hl
  unfold ldJ at h
  split at h
  · rename_i v hv
    obtain ⟨rfl, rfl, rfl, rfl⟩ := nx_inv h
    exact lv_lload hx hb hd (hl.2.2.2 _ _ hv rfl) (k H locs lsr hw hl)
  · cases h
theorem g_aload_n (C : mCx p R s m args c cells slots D tys ad cA A E M) {k0 : Fin 4} (hd : decode (mC M) i = .ok (.aload_n k0, 1)) (h : ldA (i + 1) k0 ls st σ = some (.inl (i', ls', st', σ'))) (k : mG p l e R s m args below meth c cells slots Qm D ad cA A M i' ls' st' σ') : mG p l e R s m args below meth c cells slots Qm D ad cA A M i ls st σ := by
  obtain ⟨hx, hb, hml, hown, hcn, hts, hK, hTy, hEx, hce, hsl, hfr, hlo⟩ := C
  intro H locs lsr hw hl
  unfold ldA at h
  split at h
  · rename_i v hv
    obtain ⟨rfl, rfl, rfl, rfl⟩ := nx_inv h
    exact lv_aload_n hx hb hd rfl (hl.2.2.2 _ _ hv rfl) (k H locs lsr hw hl)
  · cases h
theorem g_aload (C : mCx p R s m args c cells slots D tys ad cA A E M) {k0 : Nat} (hd : decode (mC M) i = .ok (.aload k0, 2)) (h : ldA (i + 2) k0 ls st σ = some (.inl (i', ls', st', σ'))) (k : mG p l e R s m args below meth c cells slots Qm D ad cA A M i' ls' st' σ') : mG p l e R s m args below meth c cells slots Qm D ad cA A M i ls st σ := by
  obtain ⟨hx, hb, hml, hown, hcn, hts, hK, hTy, hEx, hce, hsl, hfr, hlo⟩ := C
  intro H locs lsr hw hl
  unfold ldA at h
  split at h
  · rename_i v hv
    obtain ⟨rfl, rfl, rfl, rfl⟩ := nx_inv h
    exact lv_aload hx hb hd (hl.2.2.2 _ _ hv rfl) (k H locs lsr hw hl)
  · cases h
theorem g_istore_n (C : mCx p R s m args c cells slots D tys ad cA A E M) {k0 : Fin 4} (hd : decode (mC M) i = .ok (.istore_n k0, 1)) (h : stI (i + 1) k0 ls st σ = some (.inl (i', ls', st', σ'))) (k : mG p l e R s m args below meth c cells slots Qm D ad cA A M i' ls' st' σ') : mG p l e R s m args below meth c cells slots Qm D ad cA A M i ls st σ := by
  obtain ⟨hx, hb, hml, hown, hcn, hts, hK, hTy, hEx, hce, hsl, hfr, hlo⟩ := C
  intro H locs lsr hw hl
  unfold stI at h
  split at h
  · rename_i v st0
    split at h
    · rename_i hlt
      obtain ⟨rfl, rfl, rfl, rfl⟩ := nx_inv h
      exact lv_istore_n hx hb hd rfl (mLoc_has hl) (by rw [← hl.1]; exact hlt) rfl (fun lsr' hl' => k H locs lsr' hw (mLoc_st1 (v := .int v) hl hl'))
    · cases h
  · cases h
theorem g_istore (C : mCx p R s m args c cells slots D tys ad cA A E M) {k0 : Nat} (hd : decode (mC M) i = .ok (.istore k0, 2)) (h : stI (i + 2) k0 ls st σ = some (.inl (i', ls', st', σ'))) (k : mG p l e R s m args below meth c cells slots Qm D ad cA A M i' ls' st' σ') : mG p l e R s m args below meth c cells slots Qm D ad cA A M i ls st σ := by
  obtain ⟨hx, hb, hml, hown, hcn, hts, hK, hTy, hEx, hce, hsl, hfr, hlo⟩ := C
  intro H locs lsr hw hl
  unfold stI at h
  split at h
  · rename_i v st0
    split at h
    · rename_i hlt
      obtain ⟨rfl, rfl, rfl, rfl⟩ := nx_inv h
      exact lv_istore hx hb hd (mLoc_has hl) (by rw [← hl.1]; exact hlt) rfl (fun lsr' hl' => k H locs lsr' hw (mLoc_st1 (v := .int v) hl hl'))
    · cases h
  · cases h
theorem g_astore_n (C : mCx p R s m args c cells slots D tys ad cA A E M) {k0 : Fin 4} (hd : decode (mC M) i = .ok (.astore_n k0, 1)) (h : stA (i + 1) k0 ls st σ = some (.inl (i', ls', st', σ'))) (k : mG p l e R s m args below meth c cells slots Qm D ad cA A M i' ls' st' σ') : mG p l e R s m args below meth c cells slots Qm D ad cA A M i ls st σ := by
  obtain ⟨hx, hb, hml, hown, hcn, hts, hK, hTy, hEx, hce, hsl, hfr, hlo⟩ := C
  intro H locs lsr hw hl
  unfold stA at h
  split at h
  · rename_i v st0
    split at h
    · rename_i hlt
      obtain ⟨rfl, rfl, rfl, rfl⟩ := nx_inv h
      exact lv_astore_n hx hb hd rfl (mLoc_has hl) (by rw [← hl.1]; exact hlt) rfl (fun lsr' hl' => k H locs lsr' hw (mLoc_st1 (v := .ref v) hl hl'))
    · cases h
  · cases h
theorem g_astore (C : mCx p R s m args c cells slots D tys ad cA A E M) {k0 : Nat} (hd : decode (mC M) i = .ok (.astore k0, 2)) (h : stA (i + 2) k0 ls st σ = some (.inl (i', ls', st', σ'))) (k : mG p l e R s m args below meth c cells slots Qm D ad cA A M i' ls' st' σ') : mG p l e R s m args below meth c cells slots Qm D ad cA A M i ls st σ := by
  obtain ⟨hx, hb, hml, hown, hcn, hts, hK, hTy, hEx, hce, hsl, hfr, hlo⟩ := C
  intro H locs lsr hw hl
  unfold stA at h
  split at h
  · rename_i v st0
    split at h
    · rename_i hlt
      obtain ⟨rfl, rfl, rfl, rfl⟩ := nx_inv h
      exact lv_astore hx hb hd (mLoc_has hl) (by rw [← hl.1]; exact hlt) rfl (fun lsr' hl' => k H locs lsr' hw (mLoc_st1 (v := .ref v) hl hl'))
    · cases h
  · cases h
theorem g_lstore_n (C : mCx p R s m args c cells slots D tys ad cA A E M) {k0 : Fin 4} (hd : decode (mC M) i = .ok (.lstore_n k0, 1)) (h : stJ (i + 1) k0 ls st σ = some (.inl (i', ls', st', σ'))) (k : mG p l e R s m args below meth c cells slots Qm D ad cA A M i' ls' st' σ') : mG p l e R s m args below meth c cells slots Qm D ad cA A M i ls st σ := by
  obtain ⟨hx, hb, hml, hown, hcn, hts, hK, hTy, hEx, hce, hsl, hfr, hlo⟩ := C
  intro H locs lsr hw hl
  unfold stJ at h
  split at h
  · rename_i v st0
    split at h
    · rename_i hlt
      obtain ⟨rfl, rfl, rfl, rfl⟩ := nx_inv h
      exact lv_lstore_n hx hb hd rfl (mLoc_has hl) (by rw [← hl.1]; exact hlt) rfl (fun lsr' hl' => k H locs lsr' hw (mLoc_st2 (v := .long v) hl hl'))
    · cases h
  · cases h
theorem g_lstore (C : mCx p R s m args c cells slots D tys ad cA A E M) {k0 : Nat} (hd : decode (mC M) i = .ok (.lstore k0, 2)) (h : stJ (i + 2) k0 ls st σ = some (.inl (i', ls', st', σ'))) (k : mG p l e R s m args below meth c cells slots Qm D ad cA A M i' ls' st' σ') : mG p l e R s m args below meth c cells slots Qm D ad cA A M i ls st σ := by
  obtain ⟨hx, hb, hml, hown, hcn, hts, hK, hTy, hEx, hce, hsl, hfr, hlo⟩ := C
  intro H locs lsr hw hl
  unfold stJ at h
  split at h
  · rename_i v st0
    split at h
    · rename_i hlt
      obtain ⟨rfl, rfl, rfl, rfl⟩ := nx_inv h
      exact lv_lstore hx hb hd (mLoc_has hl) (by rw [← hl.1]; exact hlt) rfl (fun lsr' hl' => k H locs lsr' hw (mLoc_st2 (v := .long v) hl hl'))
    · cases h
  · cases h
theorem g_iinc (C : mCx p R s m args c cells slots D tys ad cA A E M) {k0 : Nat} {n : Int} (hd : decode (mC M) i = .ok (.iinc k0 n, 3)) (h : doIinc i k0 n ls st σ = some (.inl (i', ls', st', σ'))) (k : mG p l e R s m args below meth c cells slots Qm D ad cA A M i' ls' st' σ') : mG p l e R s m args below meth c cells slots Qm D ad cA A M i ls st σ := by
  obtain ⟨hx, hb, hml, hown, hcn, hts, hK, hTy, hEx, hce, hsl, hfr, hlo⟩ := C
  intro H locs lsr hw hl
  unfold doIinc at h
  split at h
  · rename_i v hv
    obtain ⟨rfl, rfl, rfl, rfl⟩ := nx_inv h
    have hm := mAs_mem (ad := ad) hv rfl
    obtain ⟨q, hq⟩ := List.getElem?_of_mem hm
    exact lv_iinc hx hb hd (mLoc_has hl) hq rfl (by rw [← hl.1]; exact (List.getElem?_eq_some_iff.mp hv).1) rfl (fun lsr' hl' => k H locs lsr' hw (mLoc_st1 (v := .int (v + Int32.ofInt n)) hl hl'))
  · cases h
theorem g_iconst (C : mCx p R s m args c cells slots D tys ad cA A E M) {n : Int} (hd : decode (mC M) i = .ok (.iconst n, 1)) (h : nx (i + 1) ls (.int (Int32.ofInt n) :: st) σ = some (.inl (i', ls', st', σ'))) (k : mG p l e R s m args below meth c cells slots Qm D ad cA A M i' ls' st' σ') : mG p l e R s m args below meth c cells slots Qm D ad cA A M i ls st σ := by
  obtain ⟨hx, hb, hml, hown, hcn, hts, hK, hTy, hEx, hce, hsl, hfr, hlo⟩ := C
  intro H locs lsr hw hl
  obtain ⟨rfl, rfl, rfl, rfl⟩ := nx_inv h
  exact lv_iconst hx hb hd rfl (k H locs lsr hw hl)
theorem g_bipush (C : mCx p R s m args c cells slots D tys ad cA A E M) {n : Int} (hd : decode (mC M) i = .ok (.bipush n, 2)) (h : nx (i + 2) ls (.int (Int8.ofInt n).toInt32 :: st) σ = some (.inl (i', ls', st', σ'))) (k : mG p l e R s m args below meth c cells slots Qm D ad cA A M i' ls' st' σ') : mG p l e R s m args below meth c cells slots Qm D ad cA A M i ls st σ := by
  obtain ⟨hx, hb, hml, hown, hcn, hts, hK, hTy, hEx, hce, hsl, hfr, hlo⟩ := C
  intro H locs lsr hw hl
  obtain ⟨rfl, rfl, rfl, rfl⟩ := nx_inv h
  exact lv_bipush hx hb hd rfl (k H locs lsr hw hl)
theorem g_sipush (C : mCx p R s m args c cells slots D tys ad cA A E M) {n : Int} (hd : decode (mC M) i = .ok (.sipush n, 3)) (h : nx (i + 3) ls (.int (Int16.ofInt n).toInt32 :: st) σ = some (.inl (i', ls', st', σ'))) (k : mG p l e R s m args below meth c cells slots Qm D ad cA A M i' ls' st' σ') : mG p l e R s m args below meth c cells slots Qm D ad cA A M i ls st σ := by
  obtain ⟨hx, hb, hml, hown, hcn, hts, hK, hTy, hEx, hce, hsl, hfr, hlo⟩ := C
  intro H locs lsr hw hl
  obtain ⟨rfl, rfl, rfl, rfl⟩ := nx_inv h
  exact lv_sipush hx hb hd rfl (k H locs lsr hw hl)
theorem g_lconst (C : mCx p R s m args c cells slots D tys ad cA A E M) {n : Fin 2} (hd : decode (mC M) i = .ok (.lconst n, 1)) (h : nx (i + 1) ls (.long (Int64.ofNat n) :: st) σ = some (.inl (i', ls', st', σ'))) (k : mG p l e R s m args below meth c cells slots Qm D ad cA A M i' ls' st' σ') : mG p l e R s m args below meth c cells slots Qm D ad cA A M i ls st σ := by
  obtain ⟨hx, hb, hml, hown, hcn, hts, hK, hTy, hEx, hce, hsl, hfr, hlo⟩ := C
  intro H locs lsr hw hl
  obtain ⟨rfl, rfl, rfl, rfl⟩ := nx_inv h
  exact lv_lconst hx hb hd rfl (k H locs lsr hw hl)
theorem mOwn (hcn : mCN[mK M]? = some (mY M).cls) : mCN.getD (mK M) "" = (mY M).cls := by
  rw [List.getD_eq_getElem?_getD, hcn]
  rfl
theorem mWord (hcn : mCN[mK M]? = some (mY M).cls) (hts : ∀ w ∈ mTB, w.before args s = true) {idx : Nat} {z : mZ} (hz : mRz (mK M) idx = some z) {w : Cond} (hw : w ∈ mNeed (mY M).cls idx z) : w.before args s = true := by
  refine hts w ((mRz_ok hz).1 w ?_)
  rw [mOwn hcn]
  exact hw
theorem g_ldc (C : mCx p R s m args c cells slots D tys ad cA A E M) {idx : Nat} (hd : decode (mC M) i = .ok (.ldc idx, 2)) (h : doLdc M idx (i + 2) ls st σ = some (.inl (i', ls', st', σ'))) (k : mG p l e R s m args below meth c cells slots Qm D ad cA A M i' ls' st' σ') : mG p l e R s m args below meth c cells slots Qm D ad cA A M i ls st σ := by
  obtain ⟨hx, hb, hml, hown, hcn, hts, hK, hTy, hEx, hce, hsl, hfr, hlo⟩ := C
  intro H locs lsr hw hl
  unfold doLdc at h
  split at h
  · rename_i v hz
    obtain ⟨rfl, rfl, rfl, rfl⟩ := nx_inv h
    exact lv_ldc hx hb hown (mWord hcn hts hz (by simp [mNeed])) hd (k H locs lsr hw hl)
  · cases h
theorem g_ldc_w (C : mCx p R s m args c cells slots D tys ad cA A E M) {idx : Nat} (hd : decode (mC M) i = .ok (.ldc_w idx, 3)) (h : doLdc M idx (i + 3) ls st σ = some (.inl (i', ls', st', σ'))) (k : mG p l e R s m args below meth c cells slots Qm D ad cA A M i' ls' st' σ') : mG p l e R s m args below meth c cells slots Qm D ad cA A M i ls st σ := by
  obtain ⟨hx, hb, hml, hown, hcn, hts, hK, hTy, hEx, hce, hsl, hfr, hlo⟩ := C
  intro H locs lsr hw hl
  unfold doLdc at h
  split at h
  · rename_i v hz
    obtain ⟨rfl, rfl, rfl, rfl⟩ := nx_inv h
    exact lv_ldcw hx hb hown (mWord hcn hts hz (by simp [mNeed])) hd (k H locs lsr hw hl)
  · cases h
theorem g_ldc2 (C : mCx p R s m args c cells slots D tys ad cA A E M) {idx : Nat} (hd : decode (mC M) i = .ok (.ldc2_w idx, 3)) (h : doLdc2 M idx (i + 3) ls st σ = some (.inl (i', ls', st', σ'))) (k : mG p l e R s m args below meth c cells slots Qm D ad cA A M i' ls' st' σ') : mG p l e R s m args below meth c cells slots Qm D ad cA A M i ls st σ := by
  obtain ⟨hx, hb, hml, hown, hcn, hts, hK, hTy, hEx, hce, hsl, hfr, hlo⟩ := C
  intro H locs lsr hw hl
  unfold doLdc2 at h
  split at h
  · rename_i v hz
    obtain ⟨rfl, rfl, rfl, rfl⟩ := nx_inv h
    exact lv_ldc2 hx hb hown (mWord hcn hts hz (by simp [mNeed])) hd (k H locs lsr hw hl)
  · cases h
theorem g_iadd (C : mCx p R s m args c cells slots D tys ad cA A E M) (hd : decode (mC M) i = .ok (.iadd, 1)) (h : o2 (fun x y => x + y) i ls st σ = some (.inl (i', ls', st', σ'))) (k : mG p l e R s m args below meth c cells slots Qm D ad cA A M i' ls' st' σ') : mG p l e R s m args below meth c cells slots Qm D ad cA A M i ls st σ := by
  obtain ⟨hx, hb, hml, hown, hcn, hts, hK, hTy, hEx, hce, hsl, hfr, hlo⟩ := C
  intro H locs lsr hw hl
  unfold o2 at h
  split at h
  · rename_i y x st0
    obtain ⟨rfl, rfl, rfl, rfl⟩ := nx_inv h
    exact lv_iadd hx hb hd (k H locs lsr hw hl)
  · cases h
theorem g_isub (C : mCx p R s m args c cells slots D tys ad cA A E M) (hd : decode (mC M) i = .ok (.isub, 1)) (h : o2 (fun x y => x - y) i ls st σ = some (.inl (i', ls', st', σ'))) (k : mG p l e R s m args below meth c cells slots Qm D ad cA A M i' ls' st' σ') : mG p l e R s m args below meth c cells slots Qm D ad cA A M i ls st σ := by
  obtain ⟨hx, hb, hml, hown, hcn, hts, hK, hTy, hEx, hce, hsl, hfr, hlo⟩ := C
  intro H locs lsr hw hl
  unfold o2 at h
  split at h
  · rename_i y x st0
    obtain ⟨rfl, rfl, rfl, rfl⟩ := nx_inv h
    exact lv_isub hx hb hd (k H locs lsr hw hl)
  · cases h
theorem g_imul (C : mCx p R s m args c cells slots D tys ad cA A E M) (hd : decode (mC M) i = .ok (.imul, 1)) (h : o2 (fun x y => x * y) i ls st σ = some (.inl (i', ls', st', σ'))) (k : mG p l e R s m args below meth c cells slots Qm D ad cA A M i' ls' st' σ') : mG p l e R s m args below meth c cells slots Qm D ad cA A M i ls st σ := by
  obtain ⟨hx, hb, hml, hown, hcn, hts, hK, hTy, hEx, hce, hsl, hfr, hlo⟩ := C
  intro H locs lsr hw hl
  unfold o2 at h
  split at h
  · rename_i y x st0
    obtain ⟨rfl, rfl, rfl, rfl⟩ := nx_inv h
    exact lv_imul hx hb hd (k H locs lsr hw hl)
  · cases h
theorem g_iand (C : mCx p R s m args c cells slots D tys ad cA A E M) (hd : decode (mC M) i = .ok (.iand, 1)) (h : o2 (fun x y => x &&& y) i ls st σ = some (.inl (i', ls', st', σ'))) (k : mG p l e R s m args below meth c cells slots Qm D ad cA A M i' ls' st' σ') : mG p l e R s m args below meth c cells slots Qm D ad cA A M i ls st σ := by
  obtain ⟨hx, hb, hml, hown, hcn, hts, hK, hTy, hEx, hce, hsl, hfr, hlo⟩ := C
  intro H locs lsr hw hl
  unfold o2 at h
  split at h
  · rename_i y x st0
    obtain ⟨rfl, rfl, rfl, rfl⟩ := nx_inv h
    exact lv_iand hx hb hd (k H locs lsr hw hl)
  · cases h
theorem g_ior (C : mCx p R s m args c cells slots D tys ad cA A E M) (hd : decode (mC M) i = .ok (.ior, 1)) (h : o2 (fun x y => x ||| y) i ls st σ = some (.inl (i', ls', st', σ'))) (k : mG p l e R s m args below meth c cells slots Qm D ad cA A M i' ls' st' σ') : mG p l e R s m args below meth c cells slots Qm D ad cA A M i ls st σ := by
  obtain ⟨hx, hb, hml, hown, hcn, hts, hK, hTy, hEx, hce, hsl, hfr, hlo⟩ := C
  intro H locs lsr hw hl
  unfold o2 at h
  split at h
  · rename_i y x st0
    obtain ⟨rfl, rfl, rfl, rfl⟩ := nx_inv h
    exact lv_ior hx hb hd (k H locs lsr hw hl)
  · cases h
theorem g_ixor (C : mCx p R s m args c cells slots D tys ad cA A E M) (hd : decode (mC M) i = .ok (.ixor, 1)) (h : o2 (fun x y => x ^^^ y) i ls st σ = some (.inl (i', ls', st', σ'))) (k : mG p l e R s m args below meth c cells slots Qm D ad cA A M i' ls' st' σ') : mG p l e R s m args below meth c cells slots Qm D ad cA A M i ls st σ := by
  obtain ⟨hx, hb, hml, hown, hcn, hts, hK, hTy, hEx, hce, hsl, hfr, hlo⟩ := C
  intro H locs lsr hw hl
  unfold o2 at h
  split at h
  · rename_i y x st0
    obtain ⟨rfl, rfl, rfl, rfl⟩ := nx_inv h
    exact lv_ixor hx hb hd (k H locs lsr hw hl)
  · cases h
theorem g_ishl (C : mCx p R s m args c cells slots D tys ad cA A E M) (hd : decode (mC M) i = .ok (.ishl, 1)) (h : o2 (fun x y => x <<< (y &&& 31)) i ls st σ = some (.inl (i', ls', st', σ'))) (k : mG p l e R s m args below meth c cells slots Qm D ad cA A M i' ls' st' σ') : mG p l e R s m args below meth c cells slots Qm D ad cA A M i ls st σ := by
  obtain ⟨hx, hb, hml, hown, hcn, hts, hK, hTy, hEx, hce, hsl, hfr, hlo⟩ := C
  intro H locs lsr hw hl
  unfold o2 at h
  split at h
  · rename_i y x st0
    obtain ⟨rfl, rfl, rfl, rfl⟩ := nx_inv h
    exact lv_ishl hx hb hd (k H locs lsr hw hl)
  · cases h
theorem g_ishr (C : mCx p R s m args c cells slots D tys ad cA A E M) (hd : decode (mC M) i = .ok (.ishr, 1)) (h : o2 (fun x y => x >>> (y &&& 31)) i ls st σ = some (.inl (i', ls', st', σ'))) (k : mG p l e R s m args below meth c cells slots Qm D ad cA A M i' ls' st' σ') : mG p l e R s m args below meth c cells slots Qm D ad cA A M i ls st σ := by
  obtain ⟨hx, hb, hml, hown, hcn, hts, hK, hTy, hEx, hce, hsl, hfr, hlo⟩ := C
  intro H locs lsr hw hl
  unfold o2 at h
  split at h
  · rename_i y x st0
    obtain ⟨rfl, rfl, rfl, rfl⟩ := nx_inv h
    exact lv_ishr hx hb hd (k H locs lsr hw hl)
  · cases h
theorem g_idiv (C : mCx p R s m args c cells slots D tys ad cA A E M) (hd : decode (mC M) i = .ok (.idiv, 1)) (h : o2d (fun x y => x / y) i ls st σ = some (.inl (i', ls', st', σ'))) (k : mG p l e R s m args below meth c cells slots Qm D ad cA A M i' ls' st' σ') : mG p l e R s m args below meth c cells slots Qm D ad cA A M i ls st σ := by
  obtain ⟨hx, hb, hml, hown, hcn, hts, hK, hTy, hEx, hce, hsl, hfr, hlo⟩ := C
  intro H locs lsr hw hl
  unfold o2d at h
  split at h
  · rename_i y x st0
    split at h
    · cases h
    · rename_i hne
      obtain ⟨rfl, rfl, rfl, rfl⟩ := nx_inv h
      exact lv_idiv hx hb hd hne (k H locs lsr hw hl)
  · cases h
theorem g_irem (C : mCx p R s m args c cells slots D tys ad cA A E M) (hd : decode (mC M) i = .ok (.irem, 1)) (h : o2d (fun x y => x - x / y * y) i ls st σ = some (.inl (i', ls', st', σ'))) (k : mG p l e R s m args below meth c cells slots Qm D ad cA A M i' ls' st' σ') : mG p l e R s m args below meth c cells slots Qm D ad cA A M i ls st σ := by
  obtain ⟨hx, hb, hml, hown, hcn, hts, hK, hTy, hEx, hce, hsl, hfr, hlo⟩ := C
  intro H locs lsr hw hl
  unfold o2d at h
  split at h
  · rename_i y x st0
    split at h
    · cases h
    · rename_i hne
      obtain ⟨rfl, rfl, rfl, rfl⟩ := nx_inv h
      exact lv_irem hx hb hd hne (k H locs lsr hw hl)
  · cases h
theorem g_ladd (C : mCx p R s m args c cells slots D tys ad cA A E M) (hd : decode (mC M) i = .ok (.ladd, 1)) (h : p2 (fun x y => x + y) i ls st σ = some (.inl (i', ls', st', σ'))) (k : mG p l e R s m args below meth c cells slots Qm D ad cA A M i' ls' st' σ') : mG p l e R s m args below meth c cells slots Qm D ad cA A M i ls st σ := by
  obtain ⟨hx, hb, hml, hown, hcn, hts, hK, hTy, hEx, hce, hsl, hfr, hlo⟩ := C
  intro H locs lsr hw hl
  unfold p2 at h
  split at h
  · rename_i y x st0
    obtain ⟨rfl, rfl, rfl, rfl⟩ := nx_inv h
    exact lv_ladd hx hb hd (k H locs lsr hw hl)
  · cases h
theorem g_lsub (C : mCx p R s m args c cells slots D tys ad cA A E M) (hd : decode (mC M) i = .ok (.lsub, 1)) (h : p2 (fun x y => x - y) i ls st σ = some (.inl (i', ls', st', σ'))) (k : mG p l e R s m args below meth c cells slots Qm D ad cA A M i' ls' st' σ') : mG p l e R s m args below meth c cells slots Qm D ad cA A M i ls st σ := by
  obtain ⟨hx, hb, hml, hown, hcn, hts, hK, hTy, hEx, hce, hsl, hfr, hlo⟩ := C
  intro H locs lsr hw hl
  unfold p2 at h
  split at h
  · rename_i y x st0
    obtain ⟨rfl, rfl, rfl, rfl⟩ := nx_inv h
    exact lv_lsub hx hb hd (k H locs lsr hw hl)
  · cases h
theorem g_lmul (C : mCx p R s m args c cells slots D tys ad cA A E M) (hd : decode (mC M) i = .ok (.lmul, 1)) (h : p2 (fun x y => x * y) i ls st σ = some (.inl (i', ls', st', σ'))) (k : mG p l e R s m args below meth c cells slots Qm D ad cA A M i' ls' st' σ') : mG p l e R s m args below meth c cells slots Qm D ad cA A M i ls st σ := by
  obtain ⟨hx, hb, hml, hown, hcn, hts, hK, hTy, hEx, hce, hsl, hfr, hlo⟩ := C
  intro H locs lsr hw hl
  unfold p2 at h
  split at h
  · rename_i y x st0
    obtain ⟨rfl, rfl, rfl, rfl⟩ := nx_inv h
    exact lv_lmul hx hb hd (k H locs lsr hw hl)
  · cases h
theorem g_land (C : mCx p R s m args c cells slots D tys ad cA A E M) (hd : decode (mC M) i = .ok (.land, 1)) (h : p2 (fun x y => x &&& y) i ls st σ = some (.inl (i', ls', st', σ'))) (k : mG p l e R s m args below meth c cells slots Qm D ad cA A M i' ls' st' σ') : mG p l e R s m args below meth c cells slots Qm D ad cA A M i ls st σ := by
  obtain ⟨hx, hb, hml, hown, hcn, hts, hK, hTy, hEx, hce, hsl, hfr, hlo⟩ := C
  intro H locs lsr hw hl
  unfold p2 at h
  split at h
  · rename_i y x st0
    obtain ⟨rfl, rfl, rfl, rfl⟩ := nx_inv h
    exact lv_land hx hb hd (k H locs lsr hw hl)
  · cases h
theorem g_lor (C : mCx p R s m args c cells slots D tys ad cA A E M) (hd : decode (mC M) i = .ok (.lor, 1)) (h : p2 (fun x y => x ||| y) i ls st σ = some (.inl (i', ls', st', σ'))) (k : mG p l e R s m args below meth c cells slots Qm D ad cA A M i' ls' st' σ') : mG p l e R s m args below meth c cells slots Qm D ad cA A M i ls st σ := by
  obtain ⟨hx, hb, hml, hown, hcn, hts, hK, hTy, hEx, hce, hsl, hfr, hlo⟩ := C
  intro H locs lsr hw hl
  unfold p2 at h
  split at h
  · rename_i y x st0
    obtain ⟨rfl, rfl, rfl, rfl⟩ := nx_inv h
    exact lv_lor hx hb hd (k H locs lsr hw hl)
  · cases h
theorem g_ldiv (C : mCx p R s m args c cells slots D tys ad cA A E M) (hd : decode (mC M) i = .ok (.ldiv, 1)) (h : p2d (fun x y => x / y) i ls st σ = some (.inl (i', ls', st', σ'))) (k : mG p l e R s m args below meth c cells slots Qm D ad cA A M i' ls' st' σ') : mG p l e R s m args below meth c cells slots Qm D ad cA A M i ls st σ := by
  obtain ⟨hx, hb, hml, hown, hcn, hts, hK, hTy, hEx, hce, hsl, hfr, hlo⟩ := C
  intro H locs lsr hw hl
  unfold p2d at h
  split at h
  · rename_i y x st0
    split at h
    · cases h
    · rename_i hne
      obtain ⟨rfl, rfl, rfl, rfl⟩ := nx_inv h
      exact lv_ldiv hx hb hd hne (k H locs lsr hw hl)
  · cases h
theorem g_lrem (C : mCx p R s m args c cells slots D tys ad cA A E M) (hd : decode (mC M) i = .ok (.lrem, 1)) (h : p2d (fun x y => x - x / y * y) i ls st σ = some (.inl (i', ls', st', σ'))) (k : mG p l e R s m args below meth c cells slots Qm D ad cA A M i' ls' st' σ') : mG p l e R s m args below meth c cells slots Qm D ad cA A M i ls st σ := by
  obtain ⟨hx, hb, hml, hown, hcn, hts, hK, hTy, hEx, hce, hsl, hfr, hlo⟩ := C
  intro H locs lsr hw hl
  unfold p2d at h
  split at h
  · rename_i y x st0
    split at h
    · cases h
    · rename_i hne
      obtain ⟨rfl, rfl, rfl, rfl⟩ := nx_inv h
      exact lv_lrem hx hb hd hne (k H locs lsr hw hl)
  · cases h
theorem g_ineg (C : mCx p R s m args c cells slots D tys ad cA A E M) (hd : decode (mC M) i = .ok (.ineg, 1)) (h : o1 (fun x => .int (-x)) i ls st σ = some (.inl (i', ls', st', σ'))) (k : mG p l e R s m args below meth c cells slots Qm D ad cA A M i' ls' st' σ') : mG p l e R s m args below meth c cells slots Qm D ad cA A M i ls st σ := by
  obtain ⟨hx, hb, hml, hown, hcn, hts, hK, hTy, hEx, hce, hsl, hfr, hlo⟩ := C
  intro H locs lsr hw hl
  unfold o1 at h
  split at h
  · rename_i x st0
    obtain ⟨rfl, rfl, rfl, rfl⟩ := nx_inv h
    exact lv_ineg hx hb hd (k H locs lsr hw hl)
  · cases h
theorem g_i2l (C : mCx p R s m args c cells slots D tys ad cA A E M) (hd : decode (mC M) i = .ok (.i2l, 1)) (h : o1 (fun x => .long x.toInt64) i ls st σ = some (.inl (i', ls', st', σ'))) (k : mG p l e R s m args below meth c cells slots Qm D ad cA A M i' ls' st' σ') : mG p l e R s m args below meth c cells slots Qm D ad cA A M i ls st σ := by
  obtain ⟨hx, hb, hml, hown, hcn, hts, hK, hTy, hEx, hce, hsl, hfr, hlo⟩ := C
  intro H locs lsr hw hl
  unfold o1 at h
  split at h
  · rename_i x st0
    obtain ⟨rfl, rfl, rfl, rfl⟩ := nx_inv h
    exact lv_i2l hx hb hd rfl (k H locs lsr hw hl)
  · cases h
theorem g_i2b (C : mCx p R s m args c cells slots D tys ad cA A E M) (hd : decode (mC M) i = .ok (.i2b, 1)) (h : o1 (fun x => .int x.toInt8.toInt32) i ls st σ = some (.inl (i', ls', st', σ'))) (k : mG p l e R s m args below meth c cells slots Qm D ad cA A M i' ls' st' σ') : mG p l e R s m args below meth c cells slots Qm D ad cA A M i ls st σ := by
  obtain ⟨hx, hb, hml, hown, hcn, hts, hK, hTy, hEx, hce, hsl, hfr, hlo⟩ := C
  intro H locs lsr hw hl
  unfold o1 at h
  split at h
  · rename_i x st0
    obtain ⟨rfl, rfl, rfl, rfl⟩ := nx_inv h
    exact lv_i2b hx hb hd rfl (k H locs lsr hw hl)
  · cases h
theorem g_i2s (C : mCx p R s m args c cells slots D tys ad cA A E M) (hd : decode (mC M) i = .ok (.i2s, 1)) (h : o1 (fun x => .int x.toInt16.toInt32) i ls st σ = some (.inl (i', ls', st', σ'))) (k : mG p l e R s m args below meth c cells slots Qm D ad cA A M i' ls' st' σ') : mG p l e R s m args below meth c cells slots Qm D ad cA A M i ls st σ := by
  obtain ⟨hx, hb, hml, hown, hcn, hts, hK, hTy, hEx, hce, hsl, hfr, hlo⟩ := C
  intro H locs lsr hw hl
  unfold o1 at h
  split at h
  · rename_i x st0
    obtain ⟨rfl, rfl, rfl, rfl⟩ := nx_inv h
    exact lv_i2s hx hb hd rfl (k H locs lsr hw hl)
  · cases h
theorem g_l2i (C : mCx p R s m args c cells slots D tys ad cA A E M) (hd : decode (mC M) i = .ok (.l2i, 1)) (h : p1 (fun x => .int x.toInt32) i ls st σ = some (.inl (i', ls', st', σ'))) (k : mG p l e R s m args below meth c cells slots Qm D ad cA A M i' ls' st' σ') : mG p l e R s m args below meth c cells slots Qm D ad cA A M i ls st σ := by
  obtain ⟨hx, hb, hml, hown, hcn, hts, hK, hTy, hEx, hce, hsl, hfr, hlo⟩ := C
  intro H locs lsr hw hl
  unfold p1 at h
  split at h
  · rename_i x st0
    obtain ⟨rfl, rfl, rfl, rfl⟩ := nx_inv h
    exact lv_l2i hx hb hd rfl (k H locs lsr hw hl)
  · cases h
theorem g_lshl (C : mCx p R s m args c cells slots D tys ad cA A E M) (hd : decode (mC M) i = .ok (.lshl, 1)) (h : doShl i ls st σ = some (.inl (i', ls', st', σ'))) (k : mG p l e R s m args below meth c cells slots Qm D ad cA A M i' ls' st' σ') : mG p l e R s m args below meth c cells slots Qm D ad cA A M i ls st σ := by
  obtain ⟨hx, hb, hml, hown, hcn, hts, hK, hTy, hEx, hce, hsl, hfr, hlo⟩ := C
  intro H locs lsr hw hl
  unfold doShl at h
  split at h
  · obtain ⟨rfl, rfl, rfl, rfl⟩ := nx_inv h
    exact lv_lshl hx hb hd rfl (k H locs lsr hw hl)
  · cases h
theorem g_lcmp (C : mCx p R s m args c cells slots D tys ad cA A E M) (hd : decode (mC M) i = .ok (.lcmp, 1)) (h : doLcmp i ls st σ = some (.inl (i', ls', st', σ'))) (k : mG p l e R s m args below meth c cells slots Qm D ad cA A M i' ls' st' σ') : mG p l e R s m args below meth c cells slots Qm D ad cA A M i ls st σ := by
  obtain ⟨hx, hb, hml, hown, hcn, hts, hK, hTy, hEx, hce, hsl, hfr, hlo⟩ := C
  intro H locs lsr hw hl
  unfold doLcmp at h
  split at h
  · obtain ⟨rfl, rfl, rfl, rfl⟩ := nx_inv h
    exact W.lcmp hx hb hd (k H locs lsr hw hl)
  · cases h
theorem g_ifCond (C : mCx p R s m args c cells slots D tys ad cA A E M) {q : ClassFile.Cond} {off : Int} (hd : decode (mC M) i = .ok (.ifCond q off, 3)) (h : doIf i q off ls st σ = some (.inl (i', ls', st', σ'))) (k : mG p l e R s m args below meth c cells slots Qm D ad cA A M i' ls' st' σ') : mG p l e R s m args below meth c cells slots Qm D ad cA A M i ls st σ := by
  obtain ⟨hx, hb, hml, hown, hcn, hts, hK, hTy, hEx, hce, hsl, hfr, hlo⟩ := C
  intro H locs lsr hw hl
  unfold doIf at h
  split at h
  · obtain ⟨tgt, ht, hi', rfl, rfl, rfl⟩ := br_inv h
    cases q <;> (simp only [cm0, decide_eq_true_eq] at hi')
    · exact lv_if_eq hx hb hd ht (fun a => by rw [if_pos a] at hi'; rw [← hi'] at k; exact k H locs lsr hw hl) (fun a => by (first | rw [if_neg a] at hi' | rw [if_neg (fun q => q a)] at hi'); rw [← hi'] at k; exact k H locs lsr hw hl)
    · exact lv_if_ne hx hb hd ht (fun a => by rw [if_pos a] at hi'; rw [← hi'] at k; exact k H locs lsr hw hl) (fun a => by (first | rw [if_neg a] at hi' | rw [if_neg (fun q => q a)] at hi'); rw [← hi'] at k; exact k H locs lsr hw hl)
    · exact lv_if_lt hx hb hd ht (fun a => by rw [if_pos a] at hi'; rw [← hi'] at k; exact k H locs lsr hw hl) (fun a => by (first | rw [if_neg a] at hi' | rw [if_neg (fun q => q a)] at hi'); rw [← hi'] at k; exact k H locs lsr hw hl)
    · exact lv_if_ge hx hb hd ht (fun a => by rw [if_pos a] at hi'; rw [← hi'] at k; exact k H locs lsr hw hl) (fun a => by (first | rw [if_neg a] at hi' | rw [if_neg (fun q => q a)] at hi'); rw [← hi'] at k; exact k H locs lsr hw hl)
    · exact lv_if_gt hx hb hd ht (fun a => by rw [if_pos a] at hi'; rw [← hi'] at k; exact k H locs lsr hw hl) (fun a => by (first | rw [if_neg a] at hi' | rw [if_neg (fun q => q a)] at hi'); rw [← hi'] at k; exact k H locs lsr hw hl)
    · exact lv_if_le hx hb hd ht (fun a => by rw [if_pos a] at hi'; rw [← hi'] at k; exact k H locs lsr hw hl) (fun a => by (first | rw [if_neg a] at hi' | rw [if_neg (fun q => q a)] at hi'); rw [← hi'] at k; exact k H locs lsr hw hl)
  · cases h
theorem g_if_icmp (C : mCx p R s m args c cells slots D tys ad cA A E M) {q : ClassFile.Cond} {off : Int} (hd : decode (mC M) i = .ok (.if_icmp q off, 3)) (h : doIf2 i q off ls st σ = some (.inl (i', ls', st', σ'))) (k : mG p l e R s m args below meth c cells slots Qm D ad cA A M i' ls' st' σ') : mG p l e R s m args below meth c cells slots Qm D ad cA A M i ls st σ := by
  obtain ⟨hx, hb, hml, hown, hcn, hts, hK, hTy, hEx, hce, hsl, hfr, hlo⟩ := C
  intro H locs lsr hw hl
  unfold doIf2 at h
  split at h
  · obtain ⟨tgt, ht, hi', rfl, rfl, rfl⟩ := br_inv h
    cases q <;> (simp only [cm2, decide_eq_true_eq] at hi')
    · exact lv_icmp_eq hx hb hd ht (fun a => by rw [if_pos a] at hi'; rw [← hi'] at k; exact k H locs lsr hw hl) (fun a => by (first | rw [if_neg a] at hi' | rw [if_neg (fun q => q a)] at hi'); rw [← hi'] at k; exact k H locs lsr hw hl)
    · exact lv_icmp_ne hx hb hd ht (fun a => by rw [if_pos a] at hi'; rw [← hi'] at k; exact k H locs lsr hw hl) (fun a => by (first | rw [if_neg a] at hi' | rw [if_neg (fun q => q a)] at hi'); rw [← hi'] at k; exact k H locs lsr hw hl)
    · exact lv_icmp_lt hx hb hd ht (fun a => by rw [if_pos a] at hi'; rw [← hi'] at k; exact k H locs lsr hw hl) (fun a => by (first | rw [if_neg a] at hi' | rw [if_neg (fun q => q a)] at hi'); rw [← hi'] at k; exact k H locs lsr hw hl)
    · exact lv_icmp_ge hx hb hd ht (fun a => by rw [if_pos a] at hi'; rw [← hi'] at k; exact k H locs lsr hw hl) (fun a => by (first | rw [if_neg a] at hi' | rw [if_neg (fun q => q a)] at hi'); rw [← hi'] at k; exact k H locs lsr hw hl)
    · exact lv_icmp_gt hx hb hd ht (fun a => by rw [if_pos a] at hi'; rw [← hi'] at k; exact k H locs lsr hw hl) (fun a => by (first | rw [if_neg a] at hi' | rw [if_neg (fun q => q a)] at hi'); rw [← hi'] at k; exact k H locs lsr hw hl)
    · exact lv_icmp_le hx hb hd ht (fun a => by rw [if_pos a] at hi'; rw [← hi'] at k; exact k H locs lsr hw hl) (fun a => by (first | rw [if_neg a] at hi' | rw [if_neg (fun q => q a)] at hi'); rw [← hi'] at k; exact k H locs lsr hw hl)
  · cases h
theorem g_goto (C : mCx p R s m args c cells slots D tys ad cA A E M) {off : Int} (hd : decode (mC M) i = .ok (.goto off, 3)) (h : jp i off ls st σ = some (.inl (i', ls', st', σ'))) (k : mG p l e R s m args below meth c cells slots Qm D ad cA A M i' ls' st' σ') : mG p l e R s m args below meth c cells slots Qm D ad cA A M i ls st σ := by
  obtain ⟨hx, hb, hml, hown, hcn, hts, hK, hTy, hEx, hce, hsl, hfr, hlo⟩ := C
  intro H locs lsr hw hl
  obtain ⟨ht, rfl, rfl, rfl⟩ := jp_inv h
  exact lv_goto hx hb hd ht (k H locs lsr hw hl)
theorem g_ifnull (C : mCx p R s m args c cells slots D tys ad cA A E M) {off : Int} (hd : decode (mC M) i = .ok (.ifnull off, 3)) (h : doNull i ls st σ = some (.inl (i', ls', st', σ'))) (k : mG p l e R s m args below meth c cells slots Qm D ad cA A M i' ls' st' σ') : mG p l e R s m args below meth c cells slots Qm D ad cA A M i ls st σ := by
  obtain ⟨hx, hb, hml, hown, hcn, hts, hK, hTy, hEx, hce, hsl, hfr, hlo⟩ := C
  intro H locs lsr hw hl
  unfold doNull at h
  split at h
  · obtain ⟨rfl, rfl, rfl, rfl⟩ := nx_inv h
    exact lv_ifnull hx hb hd (k H locs lsr hw hl)
  · cases h
theorem g_table (C : mCx p R s m args c cells slots D tys ad cA A E M) {d0 lo hi : Int} {offs : Array Int} {len : Nat} (hd : decode (mC M) i = .ok (.tableswitch d0 lo hi offs, len)) (h : doSw i d0 lo hi offs ls st σ = some (.inl (i', ls', st', σ'))) (k : mG p l e R s m args below meth c cells slots Qm D ad cA A M i' ls' st' σ') : mG p l e R s m args below meth c cells slots Qm D ad cA A M i ls st σ := by
  obtain ⟨hx, hb, hml, hown, hcn, hts, hK, hTy, hEx, hce, hsl, hfr, hlo⟩ := C
  intro H locs lsr hw hl
  unfold doSw at h
  split at h
  · split at h
    · rename_i hc
      obtain ⟨ht, rfl, rfl, rfl⟩ := jp_inv h
      exact lv_tableOut hx hb hd hc ht (k H locs lsr hw hl)
    · rename_i hc
      split at h
      · rename_i off ho
        obtain ⟨ht, rfl, rfl, rfl⟩ := jp_inv h
        exact lv_tableIn hx hb hd (fun q => hc (Or.inl q)) (fun q => hc (Or.inr q)) ho ht (k H locs lsr hw hl)
      · cases h
  · cases h
theorem g_lookup (C : mCx p R s m args c cells slots D tys ad cA A E M) {d0 : Int} {ps : Array (Int × Int)} {len : Nat} (hd : decode (mC M) i = .ok (.lookupswitch d0 ps, len)) (h : doLk i d0 ps ls st σ = some (.inl (i', ls', st', σ'))) (k : mG p l e R s m args below meth c cells slots Qm D ad cA A M i' ls' st' σ') : mG p l e R s m args below meth c cells slots Qm D ad cA A M i ls st σ := by
  obtain ⟨hx, hb, hml, hown, hcn, hts, hK, hTy, hEx, hce, hsl, hfr, hlo⟩ := C
  intro H locs lsr hw hl
  unfold doLk at h
  split at h
  · split at h
    · rename_i hc
      obtain ⟨ht, rfl, rfl, rfl⟩ := jp_inv h
      exact lv_lookup hx hb hd hc rfl ht (k H locs lsr hw hl)
    · cases h
  · cases h
theorem g_dup (C : mCx p R s m args c cells slots D tys ad cA A E M) (hd : decode (mC M) i = .ok (.dup, 1)) (h : doDup i ls st σ = some (.inl (i', ls', st', σ'))) (k : mG p l e R s m args below meth c cells slots Qm D ad cA A M i' ls' st' σ') : mG p l e R s m args below meth c cells slots Qm D ad cA A M i ls st σ := by
  obtain ⟨hx, hb, hml, hown, hcn, hts, hK, hTy, hEx, hce, hsl, hfr, hlo⟩ := C
  intro H locs lsr hw hl
  unfold doDup at h
  split at h
  · split at h
    · rename_i hc
      obtain ⟨rfl, rfl, rfl, rfl⟩ := nx_inv h
      exact lv_dup hx hb hd (by rw [cv_cat]; exact hc) (k H locs lsr hw hl)
    · cases h
  · cases h
theorem g_dup2 (C : mCx p R s m args c cells slots D tys ad cA A E M) (hd : decode (mC M) i = .ok (.dup2, 1)) (h : doDup2 i ls st σ = some (.inl (i', ls', st', σ'))) (k : mG p l e R s m args below meth c cells slots Qm D ad cA A M i' ls' st' σ') : mG p l e R s m args below meth c cells slots Qm D ad cA A M i ls st σ := by
  obtain ⟨hx, hb, hml, hown, hcn, hts, hK, hTy, hEx, hce, hsl, hfr, hlo⟩ := C
  intro H locs lsr hw hl
  unfold doDup2 at h
  split at h
  · split at h
    · rename_i hc
      obtain ⟨rfl, rfl, rfl, rfl⟩ := nx_inv h
      exact lv_dup2_11 hx hb hd (by rw [cv_cat]; exact hc.1) (by rw [cv_cat]; exact hc.2) (k H locs lsr hw hl)
    · cases h
  · cases h
theorem g_pop (C : mCx p R s m args c cells slots D tys ad cA A E M) (hd : decode (mC M) i = .ok (.pop, 1)) (h : doPop i ls st σ = some (.inl (i', ls', st', σ'))) (k : mG p l e R s m args below meth c cells slots Qm D ad cA A M i' ls' st' σ') : mG p l e R s m args below meth c cells slots Qm D ad cA A M i ls st σ := by
  obtain ⟨hx, hb, hml, hown, hcn, hts, hK, hTy, hEx, hce, hsl, hfr, hlo⟩ := C
  intro H locs lsr hw hl
  unfold doPop at h
  split at h
  · split at h
    · rename_i hc
      obtain ⟨rfl, rfl, rfl, rfl⟩ := nx_inv h
      exact lv_pop hx hb hd (by rw [cv_cat]; exact hc) (k H locs lsr hw hl)
    · cases h
  · cases h
theorem g_arraylength (C : mCx p R s m args c cells slots D tys ad cA A E M) (hd : decode (mC M) i = .ok (.arraylength, 1)) (h : doLen E i ls st σ = some (.inl (i', ls', st', σ'))) (k : mG p l e R s m args below meth c cells slots Qm D ad cA A M i' ls' st' σ') : mG p l e R s m args below meth c cells slots Qm D ad cA A M i ls st σ := by
  obtain ⟨hx, hb, hml, hown, hcn, hts, hK, hTy, hEx, hce, hsl, hfr, hlo⟩ := C
  intro H locs lsr hw hl
  unfold doLen at h
  split at h
  · rename_i a0 st0
    split at h
    · rename_i n hn
      obtain ⟨rfl, rfl, rfl, rfl⟩ := nx_inv h
      unfold aLen at hn
      split at hn
      · rename_i h0
        subst h0
        cases hn
        exact va_slen hx hb hEx.1 hEx.2.1 hEx.2.2.1 hw.2.2 hd (k H locs lsr hw hl)
      · split at hn
        · rename_i h0
          subst h0
          cases hn
          exact va_slen hx hb hEx.2.2.2.1 hEx.2.2.2.2.1 hEx.2.2.2.2.2.1 hw.2.2 hd (k H locs lsr hw hl)
        · split at hn
          · rename_i t n0 fl hS
            split at hn
            · rename_i ht
              cases hn
              obtain ⟨t0, ht0⟩ := hTy _ _ hS ht
              rcases (show t < 3 ∨ t = 3 ∨ t = 4 by omega) with h3 | h3 | h3
              · exact va_alen (x := (n, .inl (σ.1 a0))) hx hb hK hw.1 a0 t0 ((mWs_at hS).trans (by rw [mCell_i h3])) ht0 rfl hd (k H locs lsr hw hl)
              · subst h3
                exact va_alen (x := (n, .inr (.inl (σ.2 a0)))) hx hb hK hw.1 a0 t0 ((mWs_at hS).trans (by rw [mCell_l])) ht0 rfl hd (k H locs lsr hw hl)
              · subst h3
                exact va_alen (x := (n, .inr (.inr (.inr (.inr (fun j => (fl[j]?).map ad)))))) hx hb hK hw.1 a0 t0 ((mWs_at hS).trans (by rw [mCell_q])) ht0 rfl hd (k H locs lsr hw hl)
            · cases hn
          · cases hn
    · cases h
  · cases h
theorem g_iaload (C : mCx p R s m args c cells slots D tys ad cA A E M) (hd : decode (mC M) i = .ok (.iaload, 1)) (h : doAld E i ls st σ = some (.inl (i', ls', st', σ'))) (k : mG p l e R s m args below meth c cells slots Qm D ad cA A M i' ls' st' σ') : mG p l e R s m args below meth c cells slots Qm D ad cA A M i ls st σ := by
  obtain ⟨hx, hb, hml, hown, hcn, hts, hK, hTy, hEx, hce, hsl, hfr, hlo⟩ := C
  intro H locs lsr hw hl
  unfold doAld at h
  split at h
  · rename_i j a0 st0
    split at h
    · rename_i n f hr
      split at h
      · cases h
      · rename_i hno
        obtain ⟨rfl, rfl, rfl, rfl⟩ := nx_inv h
        unfold iRow at hr
        split at hr
        · rename_i h0
          subst h0
          cases hr
          exact va_sld hx hb hEx.1 hEx.2.1 hEx.2.2.1 hw.2.2 (mOut_in hno) hd (k H locs lsr hw hl)
        · split at hr
          · rename_i h0
            subst h0
            cases hr
            exact va_sld hx hb hEx.2.2.2.1 hEx.2.2.2.2.1 hEx.2.2.2.2.2.1 hw.2.2 (mOut_in hno) hd (k H locs lsr hw hl)
          · split at hr
            · rename_i n0 fl hS
              cases hr
              obtain ⟨t0, ht0⟩ := hTy _ _ hS (by dsimp only; omega)
              exact va_iald (n := n) (f := σ.1 a0) hx hb hK hw.1 a0 t0 ((mWs_at hS).trans (by rw [mCell_i (by decide)])) ht0 (mOut_in hno) hd (k H locs lsr hw hl)
            · cases hr
    · cases h
  · cases h
theorem g_iastore (C : mCx p R s m args c cells slots D tys ad cA A E M) (hd : decode (mC M) i = .ok (.iastore, 1)) (h : doAst i ls st σ = some (.inl (i', ls', st', σ'))) (k : mG p l e R s m args below meth c cells slots Qm D ad cA A M i' ls' st' σ') : mG p l e R s m args below meth c cells slots Qm D ad cA A M i ls st σ := by
  obtain ⟨hx, hb, hml, hown, hcn, hts, hK, hTy, hEx, hce, hsl, hfr, hlo⟩ := C
  intro H locs lsr hw hl
  unfold doAst at h
  split at h
  · rename_i x j a0 st0
    split at h
    · rename_i n fl hS
      split at h
      · cases h
      · rename_i hno
        obtain ⟨rfl, rfl, rfl, rfl⟩ := nx_inv h
        obtain ⟨t0, ht0⟩ := hTy _ _ hS (by dsimp only; omega)
        refine va_iast (n := n) (f := σ.1 a0) hx hb hK hw.1 hw.2.1 hw.2.2 a0 t0 ((mWs_at hS).trans (by rw [mCell_i (by decide)])) ht0 (mOut_in hno) hd (fun H1 locs1 hP1 hD1 hS1 => k H1 locs1 lsr ⟨?_, ?_, hS1⟩ hl)
        · rw [← mWs_upd hS (σ := σ) (τ := sI σ a0 _ _) (fun q hq => sI_1 hq) (fun q hq => rfl), mCell_i (by decide), sI_u]; exact hP1
        · rw [← mWs_upd hS (σ := σ) (τ := sI σ a0 _ _) (fun q hq => sI_1 hq) (fun q hq => rfl), mCell_i (by decide), sI_u]; exact hD1
    · cases h
  · cases h
theorem g_bastore (C : mCx p R s m args c cells slots D tys ad cA A E M) (hd : decode (mC M) i = .ok (.bastore, 1)) (h : doBst i ls st σ = some (.inl (i', ls', st', σ'))) (k : mG p l e R s m args below meth c cells slots Qm D ad cA A M i' ls' st' σ') : mG p l e R s m args below meth c cells slots Qm D ad cA A M i ls st σ := by
  obtain ⟨hx, hb, hml, hown, hcn, hts, hK, hTy, hEx, hce, hsl, hfr, hlo⟩ := C
  intro H locs lsr hw hl
  unfold doBst at h
  split at h
  · rename_i x j a0 st0
    split at h
    · rename_i n fl hS
      split at h
      · cases h
      · rename_i hno
        obtain ⟨rfl, rfl, rfl, rfl⟩ := nx_inv h
        obtain ⟨t0, ht0⟩ := hTy _ _ hS (by dsimp only; omega)
        refine va_bast (n := n) (f := σ.1 a0) hx hb hK hw.1 hw.2.1 hw.2.2 a0 t0 ((mWs_at hS).trans (by rw [mCell_i (by decide)])) ht0 (mOut_in hno) hd (fun H1 locs1 hP1 hD1 hS1 => k H1 locs1 lsr ⟨?_, ?_, hS1⟩ hl)
        · rw [← mWs_upd hS (σ := σ) (τ := sI σ a0 _ _) (fun q hq => sI_1 hq) (fun q hq => rfl), mCell_i (by decide), sI_u]; exact hP1
        · rw [← mWs_upd hS (σ := σ) (τ := sI σ a0 _ _) (fun q hq => sI_1 hq) (fun q hq => rfl), mCell_i (by decide), sI_u]; exact hD1
    · rename_i n fl hS
      split at h
      · cases h
      · rename_i hno
        obtain ⟨rfl, rfl, rfl, rfl⟩ := nx_inv h
        obtain ⟨t0, ht0⟩ := hTy _ _ hS (by dsimp only; omega)
        refine va_zast (n := n) (f := σ.1 a0) hx hb hK hw.1 hw.2.1 hw.2.2 a0 t0 ((mWs_at hS).trans (by rw [mCell_i (by decide)])) ht0 (mOut_in hno) hd (fun H1 locs1 hP1 hD1 hS1 => k H1 locs1 lsr ⟨?_, ?_, hS1⟩ hl)
        · rw [← mWs_upd hS (σ := σ) (τ := sI σ a0 _ _) (fun q hq => sI_1 hq) (fun q hq => rfl), mCell_i (by decide), sI_u]; exact hP1
        · rw [← mWs_upd hS (σ := σ) (τ := sI σ a0 _ _) (fun q hq => sI_1 hq) (fun q hq => rfl), mCell_i (by decide), sI_u]; exact hD1
    · cases h
  · cases h
theorem g_lastore (C : mCx p R s m args c cells slots D tys ad cA A E M) (hd : decode (mC M) i = .ok (.lastore, 1)) (h : doLst i ls st σ = some (.inl (i', ls', st', σ'))) (k : mG p l e R s m args below meth c cells slots Qm D ad cA A M i' ls' st' σ') : mG p l e R s m args below meth c cells slots Qm D ad cA A M i ls st σ := by
  obtain ⟨hx, hb, hml, hown, hcn, hts, hK, hTy, hEx, hce, hsl, hfr, hlo⟩ := C
  intro H locs lsr hw hl
  unfold doLst at h
  split at h
  · rename_i x j a0 st0
    split at h
    · rename_i n fl hS
      split at h
      · cases h
      · rename_i hno
        obtain ⟨rfl, rfl, rfl, rfl⟩ := nx_inv h
        obtain ⟨t0, ht0⟩ := hTy _ _ hS (by dsimp only; omega)
        refine va_last (n := n) (f := σ.2 a0) hx hb hK hw.1 hw.2.1 hw.2.2 a0 t0 ((mWs_at hS).trans (by rw [mCell_l])) ht0 (mOut_in hno) hd (fun H1 locs1 hP1 hD1 hS1 => k H1 locs1 lsr ⟨?_, ?_, hS1⟩ hl)
        · rw [← mWs_upd hS (σ := σ) (τ := sL σ a0 _ _) (fun q hq => rfl) (fun q hq => sL_2 hq), mCell_l, sL_u]; exact hP1
        · rw [← mWs_upd hS (σ := σ) (τ := sL σ a0 _ _) (fun q hq => rfl) (fun q hq => sL_2 hq), mCell_l, sL_u]; exact hD1
    · cases h
  · cases h
theorem g_baload (C : mCx p R s m args c cells slots D tys ad cA A E M) (hd : decode (mC M) i = .ok (.baload, 1)) (h : doBld i ls st σ = some (.inl (i', ls', st', σ'))) (k : mG p l e R s m args below meth c cells slots Qm D ad cA A M i' ls' st' σ') : mG p l e R s m args below meth c cells slots Qm D ad cA A M i ls st σ := by
  obtain ⟨hx, hb, hml, hown, hcn, hts, hK, hTy, hEx, hce, hsl, hfr, hlo⟩ := C
  intro H locs lsr hw hl
  unfold doBld at h
  split at h
  · rename_i j a0 st0
    split at h
    · rename_i n fl hS
      split at h
      · cases h
      · rename_i hno
        obtain ⟨rfl, rfl, rfl, rfl⟩ := nx_inv h
        obtain ⟨t0, ht0⟩ := hTy _ _ hS (by dsimp only; omega)
        exact va_bald (n := n) (f := σ.1 a0) hx hb hK hw.1 a0 t0 ((mWs_at hS).trans (by rw [mCell_i (by decide)])) ht0 (mOut_in hno) hd (k H locs lsr hw hl)
    · rename_i n fl hS
      split at h
      · cases h
      · rename_i hno
        obtain ⟨rfl, rfl, rfl, rfl⟩ := nx_inv h
        obtain ⟨t0, ht0⟩ := hTy _ _ hS (by dsimp only; omega)
        exact va_zald (n := n) (f := σ.1 a0) hx hb hK hw.1 a0 t0 ((mWs_at hS).trans (by rw [mCell_i (by decide)])) ht0 (mOut_in hno) hd (k H locs lsr hw hl)
    · cases h
  · cases h
theorem g_laload (C : mCx p R s m args c cells slots D tys ad cA A E M) (hd : decode (mC M) i = .ok (.laload, 1)) (h : doLld i ls st σ = some (.inl (i', ls', st', σ'))) (k : mG p l e R s m args below meth c cells slots Qm D ad cA A M i' ls' st' σ') : mG p l e R s m args below meth c cells slots Qm D ad cA A M i ls st σ := by
  obtain ⟨hx, hb, hml, hown, hcn, hts, hK, hTy, hEx, hce, hsl, hfr, hlo⟩ := C
  intro H locs lsr hw hl
  unfold doLld at h
  split at h
  · rename_i j a0 st0
    split at h
    · rename_i n fl hS
      split at h
      · cases h
      · rename_i hno
        obtain ⟨rfl, rfl, rfl, rfl⟩ := nx_inv h
        obtain ⟨t0, ht0⟩ := hTy _ _ hS (by dsimp only; omega)
        exact va_lald (n := n) (f := σ.2 a0) hx hb hK hw.1 a0 t0 ((mWs_at hS).trans (by rw [mCell_l])) ht0 (mOut_in hno) hd (k H locs lsr hw hl)
    · cases h
  · cases h
theorem g_aaload (C : mCx p R s m args c cells slots D tys ad cA A E M) (hd : decode (mC M) i = .ok (.aaload, 1)) (h : doQld i ls st σ = some (.inl (i', ls', st', σ'))) (k : mG p l e R s m args below meth c cells slots Qm D ad cA A M i' ls' st' σ') : mG p l e R s m args below meth c cells slots Qm D ad cA A M i ls st σ := by
  obtain ⟨hx, hb, hml, hown, hcn, hts, hK, hTy, hEx, hce, hsl, hfr, hlo⟩ := C
  intro H locs lsr hw hl
  unfold doQld at h
  split at h
  · rename_i j a0 st0
    split at h
    · rename_i n fl hS
      split at h
      · cases h
      · rename_i hno
        split at h
        · rename_i r hr
          obtain ⟨rfl, rfl, rfl, rfl⟩ := nx_inv h
          obtain ⟨t0, ht0⟩ := hTy _ _ hS (by dsimp only; omega)
          refine va_aldq (C := "PaperBread$Town") (n := n) (f := fun j => (fl[j]?).map ad) hx hb hK hw.1 a0 t0 ((mWs_at hS).trans (by rw [mCell_q])) ht0 (mOut_in hno) hd ?_
          rw [hr]
          exact k H locs lsr hw hl
        · cases h
    · cases h
  · cases h
theorem g_getfield (C : mCx p R s m args c cells slots D tys ad cA A E M) {idx : Nat} (hd : decode (mC M) i = .ok (.getfield idx, 3)) (h : doGet M idx i ls st σ = some (.inl (i', ls', st', σ'))) (k : mG p l e R s m args below meth c cells slots Qm D ad cA A M i' ls' st' σ') : mG p l e R s m args below meth c cells slots Qm D ad cA A M i ls st σ := by
  obtain ⟨hx, hb, hml, hown, hcn, hts, hK, hTy, hEx, hce, hsl, hfr, hlo⟩ := C
  intro H locs lsr hw hl
  unfold doGet at h
  split at h
  · rename_i a0 st0 ci k0 hz
    split at h
    · rename_i c' fl hS
      split at h
      · rename_i hc
        subst hc
        obtain ⟨-, Cn, T, N, hcl, hk⟩ := mRz_ok hz
        obtain ⟨hlay, hdc, -, -⟩ := mLay hcl
        have hlink : (Cond.fieldLink (mY M).cls idx Cn (T k0).2.1 (T k0).2.2.1).before args s = true := mWord hcn hts hz (by simp only [mNeed, hcl]; exact List.mem_cons_self)
        have he : (mWs ad cA σ)[a0]? = some (ad a0, .inr (c', fl.mapIdx (fun j e => mFld ad σ a0 j e))) := (mWs_at hS).trans (by rw [mCell_o])
        have go : ∀ (ev : Nat), fl[k0]? = some ev → W p l e R s m args below meth c H locs cells slots Qm (F0 m (i + 3) lsr (mFld ad σ a0 k0 ev :: st0.map (cv ad))) → W p l e R s m args below meth c H locs cells slots Qm (F0 m i lsr (.ref (ad a0) :: st0.map (cv ad))) := fun ev hev kk =>
          va_get hx hb hts hlay hown hK hw.1 a0 he hcl k0 hk hlink (fun x hxx => by rw [hdc k0] at hxx; exact hxx) (mFl_at hev) hd kk
        split at h
        · rename_i hev
          obtain ⟨rfl, rfl, rfl, rfl⟩ := nx_inv h
          exact go 0 hev (k H locs lsr hw hl)
        · rename_i hev
          obtain ⟨rfl, rfl, rfl, rfl⟩ := nx_inv h
          exact go 1 hev (k H locs lsr hw hl)
        · rename_i r hev
          obtain ⟨rfl, rfl, rfl, rfl⟩ := nx_inv h
          exact go (r + 2) hev (k H locs lsr hw hl)
        · cases h
      · cases h
    · cases h
  · cases h
theorem g_putfield (C : mCx p R s m args c cells slots D tys ad cA A E M) {idx : Nat} (hd : decode (mC M) i = .ok (.putfield idx, 3)) (h : doPut M idx i ls st σ = some (.inl (i', ls', st', σ'))) (k : mG p l e R s m args below meth c cells slots Qm D ad cA A M i' ls' st' σ') : mG p l e R s m args below meth c cells slots Qm D ad cA A M i ls st σ := by
  obtain ⟨hx, hb, hml, hown, hcn, hts, hK, hTy, hEx, hce, hsl, hfr, hlo⟩ := C
  intro H locs lsr hw hl
  unfold doPut at h
  have fin : ∀ {ci k0 : Nat} {Cn : String} {T : u_T} {N : Nat}, vwCl[ci]? = some (Cn, T, N) → mFin ci k0 = false → (T k0).2.2.2 = false := fun hcl hf => by
    unfold mFin at hf
    rw [hcl] at hf
    exact hf
  split at h
  · rename_i v a0 st0 ci k0 hz
    split at h
    · rename_i c' fl hS
      split at h
      · rename_i hc
        obtain ⟨hc, hf, hev⟩ := hc
        subst hc
        obtain ⟨-, Cn, T, N, hcl, hk⟩ := mRz_ok hz
        obtain ⟨hlay, hdc, hty, hnm⟩ := mLay hcl
        have hlink : (Cond.fieldLink (mY M).cls idx Cn (T k0).2.1 (T k0).2.2.1).before args s = true := mWord hcn hts hz (by simp only [mNeed, hcl]; exact List.mem_cons_self)
        have he : (mWs ad cA σ)[a0]? = some (ad a0, .inr (c', fl.mapIdx (fun j e => mFld ad σ a0 j e))) := (mWs_at hS).trans (by rw [mCell_o])
        have go : narrow (mTyF c' k0) (.int v) = .int v → fits (mTyF c' k0) (.int v) = true → mG p l e R s m args below meth c cells slots Qm D ad cA A M (i + 3) ls st0 (sI σ a0 k0 v) → W p l e R s m args below meth c H locs cells slots Qm (F0 m i lsr (.int v :: .ref (ad a0) :: st0.map (cv ad))) := fun hn hfit kk => by
          refine va_put hx hb hts hlay (mTyF c') hty hnm hown hK hw.1 hw.2.1 hw.2.2 a0 he hcl k0 hk hlink (fun x hxx => by rw [hdc k0] at hxx; exact hxx) (fin hcl hf) (hty k0 hk) hn hfit (List.getElem?_eq_some_iff.mp (mFl_at (ad := ad) (σ := σ) (o := a0) hev)).1 hd (fun H1 locs1 hP1 hD1 hS1 => kk H1 locs1 lsr ⟨?_, ?_, hS1⟩ hl)
          · rw [← mWs_upd hS (σ := σ) (fun q hq => sI_1 hq) (fun q hq => rfl), mCell_o, ← mFl_setI hev]; exact hP1
          · rw [← mWs_upd hS (σ := σ) (fun q hq => sI_1 hq) (fun q hq => rfl), mCell_o, ← mFl_setI hev]; exact hD1
        split at h
        · rename_i hti
          obtain ⟨rfl, rfl, rfl, rfl⟩ := nx_inv h
          exact go (by rw [hti]; rfl) (by rw [hti]; rfl) k
        · split at h
          · rename_i htb
            split at h
            · rename_i hv
              obtain ⟨rfl, rfl, rfl, rfl⟩ := nx_inv h
              refine go (by rw [htb]; rcases hv with rfl | rfl <;> rfl) (by rw [htb]; rcases hv with rfl | rfl <;> rfl) k
            · cases h
          · cases h
      · cases h
    · cases h
  · rename_i v a0 st0 ci k0 hz
    split at h
    · rename_i c' fl hS
      split at h
      · rename_i hc
        obtain ⟨hc, hf, hev, htl⟩ := hc
        subst hc
        obtain ⟨-, Cn, T, N, hcl, hk⟩ := mRz_ok hz
        obtain ⟨hlay, hdc, hty, hnm⟩ := mLay hcl
        have hlink : (Cond.fieldLink (mY M).cls idx Cn (T k0).2.1 (T k0).2.2.1).before args s = true := mWord hcn hts hz (by simp only [mNeed, hcl]; exact List.mem_cons_self)
        have he : (mWs ad cA σ)[a0]? = some (ad a0, .inr (c', fl.mapIdx (fun j e => mFld ad σ a0 j e))) := (mWs_at hS).trans (by rw [mCell_o])
        obtain ⟨rfl, rfl, rfl, rfl⟩ := nx_inv h
        refine va_put hx hb hts hlay (mTyF c') hty hnm hown hK hw.1 hw.2.1 hw.2.2 a0 he hcl k0 hk hlink (fun x hxx => by rw [hdc k0] at hxx; exact hxx) (fin hcl hf) (hty k0 hk) (by rw [htl]; rfl) (by rw [htl]; rfl) (List.getElem?_eq_some_iff.mp (mFl_at (ad := ad) (σ := σ) (o := a0) hev)).1 hd (fun H1 locs1 hP1 hD1 hS1 => k H1 locs1 lsr ⟨?_, ?_, hS1⟩ hl)
        · rw [← mWs_upd hS (σ := σ) (τ := sL σ a0 k0 v) (fun q hq => rfl) (fun q hq => sL_2 hq), mCell_o, ← mFl_setL hev]; exact hP1
        · rw [← mWs_upd hS (σ := σ) (τ := sL σ a0 k0 v) (fun q hq => rfl) (fun q hq => sL_2 hq), mCell_o, ← mFl_setL hev]; exact hD1
      · cases h
    · cases h
  · cases h
theorem g_getstatic (C : mCx p R s m args c cells slots D tys ad cA A E M) {idx : Nat} (hd : decode (mC M) i = .ok (.getstatic idx, 3)) (h : doGets M idx i ls st σ = some (.inl (i', ls', st', σ'))) (k : mG p l e R s m args below meth c cells slots Qm D ad cA A M i' ls' st' σ') : mG p l e R s m args below meth c cells slots Qm D ad cA A M i ls st σ := by
  obtain ⟨hx, hb, hml, hown, hcn, hts, hK, hTy, hEx, hce, hsl, hfr, hlo⟩ := C
  intro H locs lsr hw hl
  unfold doGets at h
  split at h
  · rename_i hz
    obtain ⟨rfl, rfl, rfl, rfl⟩ := nx_inv h
    exact va_gets hx hb hEx.2.2.2.2.2.2 hw.2.2 hown (mWord hcn hts hz (by simp only [mNeed]; exact List.mem_cons_self)) (fun x hxx => hxx) hd (k H locs lsr hw hl)
  · cases h
end STEP
end
section
def noCall : mRes → Prop
  | some (.inr _) => False
  | _ => True
theorem ex_nx {cs : mCS} {Q : mPost} {X : Nat → List Value → List Value → mSt → Prop} {σ : mSt} {r : mRes} (hn : noCall r) (hx : exS cs Q X σ r) : ∃ i' ls' st' σ', r = some (.inl (i', ls', st', σ')) ∧ X i' ls' st' σ' := by
  match r, hn, hx with
  | some (.inl (i', ls', st', σ')), _, hx => exact ⟨i', ls', st', σ', rfl, hx⟩
theorem nc_nx {i : Nat} {ls st : List Value} {σ : mSt} : noCall (nx i ls st σ) := trivial
theorem nc_jp {i : Nat} {off : Int} {ls st : List Value} {σ : mSt} : noCall (jp i off ls st σ) := by unfold jp; split <;> trivial
theorem nc_br {i : Nat} {off : Int} {q : Prop} [Decidable q] {ls st : List Value} {σ : mSt} : noCall (br i off q ls st σ) := by unfold br; split <;> trivial
theorem nc_ldI {i k : Nat} {ls st : List Value} {σ : mSt} : noCall (ldI i k ls st σ) := by unfold ldI; (repeat' split) <;> trivial
theorem nc_ldJ {i k : Nat} {ls st : List Value} {σ : mSt} : noCall (ldJ i k ls st σ) := by unfold ldJ; (repeat' split) <;> trivial
theorem nc_ldA {i k : Nat} {ls st : List Value} {σ : mSt} : noCall (ldA i k ls st σ) := by unfold ldA; (repeat' split) <;> trivial
theorem nc_stI {i k : Nat} {ls st : List Value} {σ : mSt} : noCall (stI i k ls st σ) := by unfold stI; (repeat' split) <;> trivial
theorem nc_stA {i k : Nat} {ls st : List Value} {σ : mSt} : noCall (stA i k ls st σ) := by unfold stA; (repeat' split) <;> trivial
theorem nc_stJ {i k : Nat} {ls st : List Value} {σ : mSt} : noCall (stJ i k ls st σ) := by unfold stJ; (repeat' split) <;> trivial
theorem nc_doIinc {i k : Nat} {n : Int} {ls st : List Value} {σ : mSt} : noCall (doIinc i k n ls st σ) := by unfold doIinc; (repeat' split) <;> trivial
theorem nc_doLdc {M : mM} {i k : Nat} {ls st : List Value} {σ : mSt} : noCall (doLdc M k i ls st σ) := by unfold doLdc; (repeat' split) <;> trivial
theorem nc_doLdc2 {M : mM} {i k : Nat} {ls st : List Value} {σ : mSt} : noCall (doLdc2 M k i ls st σ) := by unfold doLdc2; (repeat' split) <;> trivial
theorem nc_o2 {f : Int32 → Int32 → Int32} {i : Nat} {ls st : List Value} {σ : mSt} : noCall (o2 f i ls st σ) := by unfold o2; (repeat' split) <;> trivial
theorem nc_o2d {f : Int32 → Int32 → Int32} {i : Nat} {ls st : List Value} {σ : mSt} : noCall (o2d f i ls st σ) := by unfold o2d; (repeat' split) <;> trivial
theorem nc_p2 {f : Int64 → Int64 → Int64} {i : Nat} {ls st : List Value} {σ : mSt} : noCall (p2 f i ls st σ) := by unfold p2; (repeat' split) <;> trivial
theorem nc_p2d {f : Int64 → Int64 → Int64} {i : Nat} {ls st : List Value} {σ : mSt} : noCall (p2d f i ls st σ) := by unfold p2d; (repeat' split) <;> trivial
theorem nc_o1 {f : Int32 → Value} {i : Nat} {ls st : List Value} {σ : mSt} : noCall (o1 f i ls st σ) := by unfold o1; (repeat' split) <;> trivial
theorem nc_p1 {f : Int64 → Value} {i : Nat} {ls st : List Value} {σ : mSt} : noCall (p1 f i ls st σ) := by unfold p1; (repeat' split) <;> trivial
theorem nc_doShl {i : Nat} {ls st : List Value} {σ : mSt} : noCall (doShl i ls st σ) := by unfold doShl; (repeat' split) <;> trivial
theorem nc_doLcmp {i : Nat} {ls st : List Value} {σ : mSt} : noCall (doLcmp i ls st σ) := by unfold doLcmp; (repeat' split) <;> trivial
theorem nc_doNull {i : Nat} {ls st : List Value} {σ : mSt} : noCall (doNull i ls st σ) := by unfold doNull; (repeat' split) <;> trivial
theorem nc_doDup {i : Nat} {ls st : List Value} {σ : mSt} : noCall (doDup i ls st σ) := by unfold doDup; (repeat' split) <;> trivial
theorem nc_doDup2 {i : Nat} {ls st : List Value} {σ : mSt} : noCall (doDup2 i ls st σ) := by unfold doDup2; (repeat' split) <;> trivial
theorem nc_doPop {i : Nat} {ls st : List Value} {σ : mSt} : noCall (doPop i ls st σ) := by unfold doPop; (repeat' split) <;> trivial
theorem nc_doLen {E : mEn} {i : Nat} {ls st : List Value} {σ : mSt} : noCall (doLen E i ls st σ) := by unfold doLen; (repeat' split) <;> trivial
theorem nc_doAld {E : mEn} {i : Nat} {ls st : List Value} {σ : mSt} : noCall (doAld E i ls st σ) := by unfold doAld; (repeat' split) <;> trivial
theorem nc_doAst {i : Nat} {ls st : List Value} {σ : mSt} : noCall (doAst i ls st σ) := by unfold doAst; (repeat' split) <;> trivial
theorem nc_doBld {i : Nat} {ls st : List Value} {σ : mSt} : noCall (doBld i ls st σ) := by unfold doBld; (repeat' split) <;> trivial
theorem nc_doBst {i : Nat} {ls st : List Value} {σ : mSt} : noCall (doBst i ls st σ) := by unfold doBst; (repeat' split) <;> trivial
theorem nc_doLld {i : Nat} {ls st : List Value} {σ : mSt} : noCall (doLld i ls st σ) := by unfold doLld; (repeat' split) <;> trivial
theorem nc_doLst {i : Nat} {ls st : List Value} {σ : mSt} : noCall (doLst i ls st σ) := by unfold doLst; (repeat' split) <;> trivial
theorem nc_doQld {i : Nat} {ls st : List Value} {σ : mSt} : noCall (doQld i ls st σ) := by unfold doQld; (repeat' split) <;> trivial
theorem nc_doGet {M : mM} {i k : Nat} {ls st : List Value} {σ : mSt} : noCall (doGet M k i ls st σ) := by unfold doGet; (repeat' split) <;> trivial
theorem nc_doPut {M : mM} {i k : Nat} {ls st : List Value} {σ : mSt} : noCall (doPut M k i ls st σ) := by unfold doPut; (repeat' split) <;> trivial
theorem nc_doGets {M : mM} {i k : Nat} {ls st : List Value} {σ : mSt} : noCall (doGets M k i ls st σ) := by unfold doGets; (repeat' split) <;> trivial
theorem nc_doCopy {i : Nat} {ls st : List Value} {σ : mSt} : noCall (doCopy i ls st σ) := by unfold doCopy; (repeat' split) <;> trivial
theorem nc_doIf {i : Nat} {q : ClassFile.Cond} {off : Int} {ls st : List Value} {σ : mSt} : noCall (doIf i q off ls st σ) := by unfold doIf; split; exact nc_br; trivial
theorem nc_doIf2 {i : Nat} {q : ClassFile.Cond} {off : Int} {ls st : List Value} {σ : mSt} : noCall (doIf2 i q off ls st σ) := by unfold doIf2; split; exact nc_br; trivial
theorem nc_doSw {i : Nat} {d lo hi : Int} {offs : Array Int} {ls st : List Value} {σ : mSt} : noCall (doSw i d lo hi offs ls st σ) := by
  unfold doSw
  split
  · split
    · exact nc_jp
    · split
      · exact nc_jp
      · trivial
  · trivial
theorem nc_doLk {i : Nat} {d : Int} {ps : Array (Int × Int)} {ls st : List Value} {σ : mSt} : noCall (doLk i d ps ls st σ) := by
  unfold doLk
  split
  · split
    · exact nc_jp
    · trivial
  · trivial
theorem nfw : nativeFrameWords "java/lang/System" "arraycopy" 5 ≤ 30 := by decide +kernel
section CALLS
variable {p : Program} {l : Launch} {e : Env} {R : Room} {s : State} {m : MethodId} {args : Array Value} {below : List Frame} {meth : Method} {c : Code} {cells slots : Nat} {Qm : State → Prop} {D : va_G} {tys : List (ClassId × FieldType)} {ad : Nat → Nat} {cA : Nat → ClassId} {A : Nat → Prop} {E : mEn} {M : mM} {i i' : Nat} {ls st ls' st' : List Value} {σ σ' : mSt}
theorem g_copy (C : mCx p R s m args c cells slots D tys ad cA A E M) {idx : Nat} (hz : mRz (mK M) idx = some (.inr (.inr (.inr (.inr 0))))) (hd : decode (mC M) i = .ok (.invokestatic idx, 3)) (h : doCopy i ls st σ = some (.inl (i', ls', st', σ'))) (k : mG p l e R s m args below meth c cells slots Qm D ad cA A M i' ls' st' σ') : mG p l e R s m args below meth c cells slots Qm D ad cA A M i ls st σ := by
  obtain ⟨hx, hb, hml, hown, hcn, hts, hK, hTy, hEx, hce, hsl, hfr, hlo⟩ := C
  intro H locs lsr hw hl
  unfold doCopy at h
  split at h
  · rename_i n dp b0 sp a0 st0
    split at h
    · cases h
    · rename_i hneg
      have hcat : cats st0 ≤ 8 := by
        rcases Nat.lt_or_ge 8 (cats st0) with q | q
        · exact absurd (Or.inr (Or.inr (Or.inr q))) hneg
        · exact q
      split at h
      · rename_i ta na fa tb nb fb hSa hSb
        split at h
        · rename_i hbd
          obtain ⟨hab, hbd1⟩ := id hbd
          subst hab
          split at h
          · rename_i ht
            subst ht
            obtain ⟨rfl, rfl, rfl, rfl⟩ := nx_inv h
            obtain ⟨ta0, hta⟩ := hTy _ _ hSa (by dsimp only; omega)
            obtain ⟨tb0, htb⟩ := hTy _ _ hSb (by dsimp only; omega)
            refine va_copyi (n0 := na) (n1 := nb) (f := σ.1 a0) (g := σ.1 b0) hx hb (hml.trans hl.2.1.symm) hown (mWord hcn hts hz (by simp [mNeed])) (mWord hcn hts hz (by simp [mNeed])) (mWord hcn hts hz (by simp [mNeed])) (mWord hcn hts hz (by simp [mNeed])) hK hw.1 hw.2.1 hw.2.2 a0 b0 ta0 tb0 ((mWs_at hSa).trans (by rw [mCell_i (by decide)])) ((mWs_at hSb).trans (by rw [mCell_i (by decide)])) hta htb rfl (fun q => hneg (Or.inl q)) (fun q => hneg (Or.inr (Or.inl q))) (fun q => hneg (Or.inr (Or.inr (Or.inl q)))) hbd.2.1 hbd.2.2 (fun _ _ => rfl) hfr (by rw [cats_cv]; have := nfw; omega) hd (fun H1 locs1 hP1 hD1 hS1 => k H1 locs1 lsr ⟨?_, ?_, hS1⟩ hl)
            · rw [← mWs_upd hSb (σ := σ) (τ := cpI σ a0 b0 _ _ _) (fun q hq => cpI_1 hq) (fun q hq => rfl), mCell_i (by decide), cpI_u]; exact hP1
            · rw [← mWs_upd hSb (σ := σ) (τ := cpI σ a0 b0 _ _ _) (fun q hq => cpI_1 hq) (fun q hq => rfl), mCell_i (by decide), cpI_u]; exact hD1
          · split at h
            · rename_i ht
              subst ht
              split at h
              · rename_i hfit
                obtain ⟨rfl, rfl, rfl, rfl⟩ := nx_inv h
                obtain ⟨ta0, hta⟩ := hTy _ _ hSa (by dsimp only; omega)
                obtain ⟨tb0, htb⟩ := hTy _ _ hSb (by dsimp only; omega)
                refine va_copyi (n0 := na) (n1 := nb) (f := σ.1 a0) (g := σ.1 b0) hx hb (hml.trans hl.2.1.symm) hown (mWord hcn hts hz (by simp [mNeed])) (mWord hcn hts hz (by simp [mNeed])) (mWord hcn hts hz (by simp [mNeed])) (mWord hcn hts hz (by simp [mNeed])) hK hw.1 hw.2.1 hw.2.2 a0 b0 ta0 tb0 ((mWs_at hSa).trans (by rw [mCell_i (by decide)])) ((mWs_at hSb).trans (by rw [mCell_i (by decide)])) hta htb rfl (fun q => hneg (Or.inl q)) (fun q => hneg (Or.inr (Or.inl q))) (fun q => hneg (Or.inr (Or.inr (Or.inl q)))) hbd.2.1 hbd.2.2 (fun q hq => List.all_eq_true.mp hfit q (List.mem_range.mpr hq)) hfr (by rw [cats_cv]; have := nfw; omega) hd (fun H1 locs1 hP1 hD1 hS1 => k H1 locs1 lsr ⟨?_, ?_, hS1⟩ hl)
                · rw [← mWs_upd hSb (σ := σ) (τ := cpI σ a0 b0 _ _ _) (fun q hq => cpI_1 hq) (fun q hq => rfl), mCell_i (by decide), cpI_u]; exact hP1
                · rw [← mWs_upd hSb (σ := σ) (τ := cpI σ a0 b0 _ _ _) (fun q hq => cpI_1 hq) (fun q hq => rfl), mCell_i (by decide), cpI_u]; exact hD1
              · cases h
            · split at h
              · rename_i ht
                subst ht
                obtain ⟨rfl, rfl, rfl, rfl⟩ := nx_inv h
                obtain ⟨ta0, hta⟩ := hTy _ _ hSa (by dsimp only; omega)
                obtain ⟨tb0, htb⟩ := hTy _ _ hSb (by dsimp only; omega)
                refine va_copyl (n0 := na) (n1 := nb) (f := σ.2 a0) (g := σ.2 b0) hx hb (hml.trans hl.2.1.symm) hown (mWord hcn hts hz (by simp [mNeed])) (mWord hcn hts hz (by simp [mNeed])) (mWord hcn hts hz (by simp [mNeed])) (mWord hcn hts hz (by simp [mNeed])) hK hw.1 hw.2.1 hw.2.2 a0 b0 ta0 tb0 ((mWs_at hSa).trans (by rw [mCell_l])) ((mWs_at hSb).trans (by rw [mCell_l])) hta htb rfl (fun q => hneg (Or.inl q)) (fun q => hneg (Or.inr (Or.inl q))) (fun q => hneg (Or.inr (Or.inr (Or.inl q)))) hbd.2.1 hbd.2.2 (fun _ _ => rfl) hfr (by rw [cats_cv]; have := nfw; omega) hd (fun H1 locs1 hP1 hD1 hS1 => k H1 locs1 lsr ⟨?_, ?_, hS1⟩ hl)
                · rw [← mWs_upd hSb (σ := σ) (τ := cpL σ a0 b0 _ _ _) (fun q hq => rfl) (fun q hq => cpL_2 hq), mCell_l, cpL_u]; exact hP1
                · rw [← mWs_upd hSb (σ := σ) (τ := cpL σ a0 b0 _ _ _) (fun q hq => rfl) (fun q hq => cpL_2 hq), mCell_l, cpL_u]; exact hD1
              · cases h
        · cases h
      · cases h
  · cases h
theorem g_stat (C : mCx p R s m args c cells slots D tys ad cA A E M) {idx : Nat} (hd : decode (mC M) i = .ok (.invokestatic idx, 3)) (h : doStat M idx i ls st σ = some (.inl (i', ls', st', σ'))) (k : mG p l e R s m args below meth c cells slots Qm D ad cA A M i' ls' st' σ') : mG p l e R s m args below meth c cells slots Qm D ad cA A M i ls st σ := by
  have C0 := C
  obtain ⟨hx, hb, hml, hown, hcn, hts, hK, hTy, hEx, hce, hsl, hfr, hlo⟩ := C
  intro H locs lsr hw hl
  unfold doStat at h
  split at h
  · split at h
    · unfold doCall at h
      split at h <;> cases h
    · cases h
  · rename_i hz
    exact g_copy C0 hz hd h k H locs lsr hw hl
  · rename_i hz
    split at h
    · split at h
      · rename_i hcat
        obtain ⟨rfl, rfl, rfl, rfl⟩ := nx_inv h
        exact va_mmax hx hb (hml.trans hl.2.1.symm) hown (mWord hcn hts hz (by simp [mNeed])) (mWord hcn hts hz (by simp [mNeed])) (mWord hcn hts hz (by simp [mNeed])) (mWord hcn hts hz (by simp [mNeed])) hfr (by rw [cats_cv]; omega) hce hsl hd (k H locs lsr hw hl)
      · cases h
    · cases h
  · rename_i hz
    split at h
    · split at h
      · rename_i hcat
        obtain ⟨rfl, rfl, rfl, rfl⟩ := nx_inv h
        exact va_mmin hx hb (hml.trans hl.2.1.symm) hown (mWord hcn hts hz (by simp [mNeed])) (mWord hcn hts hz (by simp [mNeed])) (mWord hcn hts hz (by simp [mNeed])) (mWord hcn hts hz (by simp [mNeed])) hfr (by rw [cats_cv]; omega) hce hsl hd (k H locs lsr hw hl)
      · cases h
    · cases h
  · rename_i hz
    split at h
    · split at h
      · rename_i hcat
        obtain ⟨rfl, rfl, rfl, rfl⟩ := nx_inv h
        exact va_mmax_long hx hb (hml.trans hl.2.1.symm) hown (mWord hcn hts hz (by simp [mNeed])) (mWord hcn hts hz (by simp [mNeed])) (mWord hcn hts hz (by simp [mNeed])) (mWord hcn hts hz (by simp [mNeed])) hfr (by rw [cats_cv]; omega) hce hsl hd (k H locs lsr hw hl)
      · cases h
    · cases h
  · rename_i hz
    split at h
    · split at h
      · rename_i hcat
        obtain ⟨rfl, rfl, rfl, rfl⟩ := nx_inv h
        exact va_mabs_long hx hb (hml.trans hl.2.1.symm) hown (mWord hcn hts hz (by simp [mNeed])) (mWord hcn hts hz (by simp [mNeed])) (mWord hcn hts hz (by simp [mNeed])) (mWord hcn hts hz (by simp [mNeed])) hfr (by rw [cats_cv]; omega) hce hsl hd (k H locs lsr hw hl)
      · cases h
    · cases h
  · cases h
def mW (M : mM) : List Cond := Cond.code (mY M) (mC M) (mL M) (mR M) :: mTB
def mRoom (d : Nat) : Room := { frames := d + 1, cells := 0, slots := 0, locals := 64 * (d + 1) }
def mQc (D : va_G) (tys : List (ClassId × FieldType)) (ad : Nat → Nat) (cA : Nat → ClassId) (A : Nat → Prop) (E : mEn) (P : mPost) : Array Value → State → Outcome → State → Prop := fun _ st oc t => (∃ (r : Option Value) (σ' : mSt), oc = .returned (r.map (cv ad)) ∧ P r σ' ∧ mWd D tys ad cA A E σ' t) ∧ va_F A st t
theorem mTB_good {w : Cond} (h : w ∈ mTB) : (w.onTables && w.keeps) = true ∨ ∃ ty, w = .arrayClass ty := good_of_word (List.mem_filter.mp h).2
theorem mExt_kept {U : State} {H H1 : Heap} (h : mExt ad A E U H) (hz : H.size ≤ H1.size) (hq : ∀ a : Nat, a < H.size → ¬ A a → H1[a]? = H[a]?) : mExt ad A E U H1 := by
  obtain ⟨h1, h2, h3, h4, h5, h6, h7⟩ := h
  exact ⟨h1.kept (hq _ h2 h3), Nat.lt_of_lt_of_le h2 hz, h3, h4.kept (hq _ h5 h6), Nat.lt_of_lt_of_le h5 hz, h6, h7.kept hq⟩
theorem mExt_moved {u U : State} {H : Heap} (hvm : u.vm.Alike U.vm) (h : mExt ad A E u H) : mExt ad A E U H := by
  obtain ⟨h1, h2, h3, h4, h5, h6, h7⟩ := h
  exact ⟨h1.moved hvm, h2, h3, h4.moved hvm, h5, h6, h7.moved hvm⟩
theorem mWd_blind {vs : List Value} : FrameBlind (va_Pc vs (mWd D tys ad cA A E σ)) := by
  intro a U g mk h
  obtain ⟨h1, h2, h3, h4, h5, h6⟩ := h
  exact ⟨h1, h2, h3, va_K.moved (u := U) (U := U.calling g mk a) (Vm.Alike.refl U.vm) h4, h5, mExt_moved (u := U) (U := U.calling g mk a) (Vm.Alike.refl U.vm) h6⟩
theorem mWd_of (C : mCx p R s m args c cells slots D tys ad cA A E M) {H : Heap} {locs : List Loc} (hw : mWo D ad cA A s.heap σ H locs) {U : State} (hU : U.heap = H) (hA : s.vm.Alike U.vm) : mWd D tys ad cA A E σ U := by
  obtain ⟨hx, hb, hml, hown, hcn, hts, hK, hTy, hEx, hce, hsl, hfr, hlo⟩ := C
  subst hU
  exact ⟨hw.1, hw.2.1, hK.moved hA, hTy, mExt_moved hA (mExt_kept hEx hw.2.2.1 hw.2.2.2.1)⟩
/-- behind a call's run -/
theorem g_ran {M' : mM} {vs : List Value} {P : mPost} {lsr : Array Slot} {st0 rest : List Value} {H : Heap} {locs : List Loc}
    (hr : va_Run p l e R s m args below meth c H locs cells slots 0 0 (F0 m i lsr st0) rest (mQc D tys ad cA A E P (vs.map (cv ad)).toArray) A) (hw : mWo D ad cA A s.heap σ H locs) (hst : rest = st'.map (cv ad)) (hl : mLoc ad (mL M) ls lsr)
    (k : ∀ r σ', P r σ' → mG p l e R s m args below meth c cells slots Qm D ad cA A M (i + 3) ls (r.toList ++ st') σ') : W p l e R s m args below meth c H locs cells slots Qm (F0 m i lsr st0) := by
  intro T hT X
  obtain ⟨v, st₀, t, T', L, h0, X', hL, e1, e2, ⟨⟨r, σ', hv, hp, hwd⟩, hz, hk⟩, st⟩ := hr T hT X
  obtain ⟨hP1, hD1, -, -, -⟩ := hwd
  rw [h0] at hz hk
  have hS1 : va_S A s.heap T'.heap (locs ++ L) := ⟨Nat.le_trans hw.2.2.1 (by rw [e1]; exact hz), fun q h1 h2 => by rw [e1, hk q (Nat.lt_of_lt_of_le h1 hw.2.2.1) h2]; exact hw.2.2.2.1 q h1 h2, fun q hq => by
    rcases List.mem_append.mp hq with h | h
    · exact hw.2.2.2.2 q h
    · exact hL q h⟩
  obtain ⟨t2, a1, b1⟩ := k r σ' hp T'.heap (locs ++ L) lsr ⟨by rw [e1]; exact hP1, hD1, hS1⟩ hl T' rfl X'
  refine ⟨t2, st t2 ?_, b1⟩
  have hv2 : v = r.map (cv ad) := by injection hv
  have e3 : ({ F0 m i lsr st0 with pc := i + 3, stack := v.toList ++ rest } : JFrame) = F0 m (i + 3) lsr ((r.toList ++ st').map (cv ad)) := by
    subst hst; subst hv2
    cases r <;> simp [F0]
  rw [show (F0 m i lsr st0).pc + 3 = i + 3 from rfl, e3]
  exact a1
theorem mCN_ok : ∀ {k : Nat} {C : String}, mCN[k]? = some C → k ≠ 13 → plainName C = true ∧ C ≠ "java/lang/invoke/MethodHandle" ∧ C ≠ "java/lang/invoke/VarHandle"
  | 0, C, h, hk => by cases h; decide +kernel
  | 1, C, h, hk => by cases h; decide +kernel
  | 2, C, h, hk => by cases h; decide +kernel
  | 3, C, h, hk => by cases h; decide +kernel
  | 4, C, h, hk => by cases h; decide +kernel
  | 5, C, h, hk => by cases h; decide +kernel
  | 6, C, h, hk => by cases h; decide +kernel
  | 7, C, h, hk => by cases h; decide +kernel
  | 8, C, h, hk => by cases h; decide +kernel
  | 9, C, h, hk => by cases h; decide +kernel
  | 10, C, h, hk => by cases h; decide +kernel
  | 11, C, h, hk => by cases h; decide +kernel
  | 12, C, h, hk => by cases h; decide +kernel
  | 13, C, h, hk => absurd rfl hk
  | 14, C, h, hk => by cases h; decide +kernel
  | _ + 15, C, h, hk => by simp [mCN] at h
end CALLS
end
section
theorem doCall_inv {M' M2 : mM} {vs v2 : List Value} {i i' : Nat} {ls ls' st st' : List Value} (h : doCall M' vs i ls st = some (.inr (.inl (M2, v2, i', ls', st')))) : M2 = M' ∧ v2 = vs ∧ i' = i ∧ ls' = ls ∧ st' = st ∧ (xpd vs).length ≤ mL M' ∧ cats st ≤ 8 := by
  unfold doCall at h
  split at h
  · rename_i hc
    cases h
    exact ⟨rfl, rfl, rfl, rfl, rfl, hc.1, hc.2⟩
  · cases h
theorem mObj : ∀ sh ∈ mS0, sh.1 = 5 → sh.2.1 < 12 := by decide +kernel
theorem mObjN : ∀ {ci : Nat}, ci < 12 → ∃ q : vw_C, vwCl[ci]? = some q ∧ mCN[ci]? = some q.1
  | 0, _ => ⟨_, rfl, rfl⟩
  | 1, _ => ⟨_, rfl, rfl⟩
  | 2, _ => ⟨_, rfl, rfl⟩
  | 3, _ => ⟨_, rfl, rfl⟩
  | 4, _ => ⟨_, rfl, rfl⟩
  | 5, _ => ⟨_, rfl, rfl⟩
  | 6, _ => ⟨_, rfl, rfl⟩
  | 7, _ => ⟨_, rfl, rfl⟩
  | 8, _ => ⟨_, rfl, rfl⟩
  | 9, _ => ⟨_, rfl, rfl⟩
  | 10, _ => ⟨_, rfl, rfl⟩
  | 11, _ => ⟨_, rfl, rfl⟩
  | n + 12, h => absurd h (by omega)
section CALL2
variable {p : Program} {l : Launch} {e : Env} {R : Room} {s : State} {m : MethodId} {args : Array Value} {below : List Frame} {meth : Method} {c : Code} {cells slots : Nat} {Qm : State → Prop} {D : va_G} {tys : List (ClassId × FieldType)} {ad : Nat → Nat} {cA : Nat → ClassId} {A : Nat → Prop} {E : mEn} {M : mM} {i i' : Nat} {ls st ls' st' : List Value} {σ σ' : mSt}
theorem mGood {M' : mM} {idx : Nat} {z : mZ} (hz : mRz (mK M) idx = some z) (hcn : mCN[mK M]? = some (mY M).cls) (hm : Cond.code (mY M') (mC M') (mL M') (mR M') ∈ mNeed (mY M).cls idx z) : GoodIn mTB (mW M') := by
  intro w hw
  have hw2 : w ∈ mTB := by
    rcases List.mem_cons.mp hw with h | h
    · subst h
      refine (mRz_ok hz).1 _ ?_
      rw [mOwn hcn]
      exact hm
    · exact h
  exact ⟨hw2, mTB_good hw2⟩
theorem mCallB (C : mCx p R s m args c cells slots D tys ad cA A E M) {M' : mM} {n d idx : Nat} {b0 : Bool} (hz : mRz (mK M) idx = some (.inr (.inl (b0, M', n)))) (hfr : d + 2 ≤ R.frames) (hlo : 64 * (d + 2) ≤ R.locals) : CallB R s args (mY M).cls idx (mY M') (mC M') (mL M') (mR M') (mW M') (mRoom d) 0 0 n := by
  obtain ⟨hx, hb, hml, hown, hcn, hts, hK, hTy, hEx, hce, hsl, -, -⟩ := C
  obtain ⟨-, hs⟩ := mRz_ok hz
  obtain ⟨h1, h2, h3, h4⟩ : mSane M' n := hs
  obtain ⟨-, q1, q2⟩ := mCN_ok h1 h2
  have hin : ∀ w, (w = Cond.methodLink (mY M).cls idx (mY M') ∨ w = Cond.initialized (mY M').cls ∨ w = Cond.code (mY M') (mC M') (mL M') (mR M')) → w ∈ mNeed (mY M).cls idx (.inr (.inl (b0, M', n))) := by
    intro w hw
    cases b0 <;> (simp only [mNeed, List.mem_cons]; rcases hw with h | h | h <;> simp [h])
  refine callB_of n hts (mGood hz hcn (hin _ (Or.inr (Or.inr rfl)))) rfl rfl rfl (mWord hcn hts hz (hin _ (Or.inr (Or.inl rfl)))) (mWord hcn hts hz (hin _ (Or.inl rfl))) ⟨q1, q2, h3⟩ ⟨?_, ?_⟩
  · show d + 1 + 1 ≤ R.frames
    exact hfr
  · show 8 + (mL M' + 11) + 64 * (d + 1) ≤ R.locals
    omega
theorem g_callS (C : mCx p R s m args c cells slots D tys ad cA A E M) {idx d : Nat} {M' : mM} {vs : List Value} {P : mPost} (hd : decode (mC M) i = .ok (.invokestatic idx, 3)) (h : doStat M idx i ls st σ = some (.inr (.inl (M', vs, i', ls', st')))) (hfr : d + 2 ≤ R.frames) (hlo : 64 * (d + 2) ≤ R.locals)
    (hM : Met l (mY M') (mW M') (mRoom d) (va_Pc (vs.map (cv ad)) (mWd D tys ad cA A E σ)) (mQc D tys ad cA A E P) 0 0 A) (k : ∀ r σ', P r σ' → mG p l e R s m args below meth c cells slots Qm D ad cA A M i' ls' (r.toList ++ st') σ') : mG p l e R s m args below meth c cells slots Qm D ad cA A M i ls st σ := by
  intro H locs lsr hw hl
  unfold doStat at h
  split at h
  · rename_i M2 n hz
    split at h
    · rename_i hlen
      obtain ⟨rfl, rfl, rfl, rfl, rfl, hx1, hx2⟩ := doCall_inv h
      have hcb := mCallB C hz hfr hlo
      have C0 := C
      obtain ⟨hx, hb, hml, hown, hcn, hts, hK, hTy, hEx, hce, hsl, -, -⟩ := C
      refine g_ran (M' := M') (vs := (st.take n).reverse) (st' := st.drop n) (rest := (st.drop n).map (cv ad)) (va_runS (As := (st.take n).reverse.map (cv ad)) ⟨hx, hb, hml, hown, hts⟩ hM ⟨hcb, mWord hcn hts hz (by simp [mNeed])⟩ ⟨mWd_blind, fun U hU hW => ⟨rfl, mWd_of C0 hw hU hW.alike⟩⟩ rfl ?_ hl.2.1 ?_ (lv_room (by rw [cats_cv]; exact hx2)) hd ⟨hce, hsl⟩) hw rfl hl k
      · rw [List.length_map, List.length_reverse]; exact hlen
      · rw [← List.map_reverse, List.reverse_reverse, ← List.map_append, List.take_append_drop]
    · cases h
  · unfold doCopy at h
    (repeat' split at h) <;> cases h
  all_goals ((repeat' split at h) <;> cases h)
theorem g_callV (C : mCx p R s m args c cells slots D tys ad cA A E M) {idx d : Nat} {M' : mM} {vs : List Value} {P : mPost} (hd : decode (mC M) i = .ok (.invokevirtual idx, 3)) (h : doVirt M idx i ls st = some (.inr (.inl (M', vs, i', ls', st')))) (hfr : d + 2 ≤ R.frames) (hlo : 64 * (d + 2) ≤ R.locals)
    (hM : Met l (mY M') (mW M') (mRoom d) (va_Pc (vs.map (cv ad)) (mWd D tys ad cA A E σ)) (mQc D tys ad cA A E P) 0 0 A) (k : ∀ r σ', P r σ' → mG p l e R s m args below meth c cells slots Qm D ad cA A M i' ls' (r.toList ++ st') σ') : mG p l e R s m args below meth c cells slots Qm D ad cA A M i ls st σ := by
  intro H locs lsr hw hl
  unfold doVirt at h
  split at h
  · rename_i M2 n hz
    split at h
    · rename_i b0 st0 hst
      split at h
      · rename_i ci fl hS
        split at h
        · rename_i hc
          obtain ⟨hci, hlen⟩ := hc
          obtain ⟨rfl, rfl, rfl, rfl, rfl, hx1, hx2⟩ := doCall_inv h
          have hcb := mCallB C hz hfr hlo
          have C0 := C
          obtain ⟨hx, hb, hml, hown, hcn, hts, hK, hTy, hEx, hce, hsl, -, -⟩ := C
          obtain ⟨-, hs⟩ := mRz_ok hz
          obtain ⟨h1, h2, h3, h4⟩ : mSane M' n := hs
          subst hci
          obtain ⟨q, hq1, hq2⟩ := mObjN (mObj _ (List.mem_of_getElem? hS) rfl)
          dsimp only at hq1 hq2
          have hq3 : q.1 = (mY M').cls := by rw [h1] at hq2; exact (Option.some.inj hq2).symm
          have he : (mWs ad cA σ)[b0]? = some (ad b0, .inr (mK M', fl.mapIdx (fun j e => mFld ad σ b0 j e))) := (mWs_at hS).trans (by rw [mCell_o])
          have hrec := va_recv hK hw.1 hq1 he
          rw [hq3] at hrec
          refine g_ran (M' := M') (vs := .ref b0 :: (st.take n).reverse) (st' := st') (rest := st'.map (cv ad)) (va_runV (b := ad b0) (As := (st.take n).reverse.map (cv ad)) ⟨hx, hb, hml, hown, hts⟩ hM ⟨hcb, mWord hcn hts hz (by simp [mNeed]), mWord hcn hts hz (by simp [mNeed])⟩ ⟨mWd_blind, hrec, fun U hU hW => ⟨rfl, mWd_of C0 hw hU hW.alike⟩⟩ rfl ?_ hl.2.1 ?_ (lv_room (by rw [cats_cv]; exact hx2)) hd ⟨hce, hsl⟩) hw rfl hl k
          · rw [List.length_map, List.length_reverse]; exact hlen
          · show st.map (cv ad) = _
            rw [← List.map_reverse, List.reverse_reverse]
            conv => lhs; rw [← List.take_append_drop n st, hst]
            rw [List.map_append]
            rfl
        · cases h
      · cases h
    · cases h
  · cases h
end CALL2
end
section
theorem ent_mem (ad : Nat → Nat) : ∀ (vs : List Value) (off i : Nat) (v : Value), (xpd vs)[i]? = some v → kn v = true → (off + i, cv ad v) ∈ lv_args off (vs.map (cv ad))
  | [], off, i, v, h, hk => by simp [xpd] at h
  | a :: t, off, i, v, h, hk => by
    have e : xpd (a :: t) = (if a.category = 2 then [a, uu] else [a]) ++ xpd t := by simp [xpd]
    rw [e] at h
    simp only [List.map_cons, lv_args, cv_cat]
    by_cases hc : a.category = 2
    · simp only [hc, if_true] at h ⊢
      match i, h with
      | 0, h =>
        have h2 : a = v := by simpa using h
        subst h2
        exact List.mem_cons_self
      | 1, h =>
        have h2 : uu = v := by simpa using h
        subst h2
        simp [kn] at hk
      | j + 2, h =>
        have h2 : (xpd t)[j]? = some v := by simpa using h
        have h3 := ent_mem ad t (off + 2) j v h2 hk
        rw [show off + 2 + j = off + (j + 2) by omega] at h3
        exact List.mem_cons_of_mem _ h3
    · simp only [hc, if_false] at h ⊢
      match i, h with
      | 0, h =>
        have h2 : a = v := by simpa using h
        subst h2
        exact List.mem_cons_self
      | j + 1, h =>
        have h2 : (xpd t)[j]? = some v := by simpa using h
        have h3 := ent_mem ad t (off + 1) j v h2 hk
        rw [show off + 1 + j = off + (j + 1) by omega] at h3
        exact List.mem_cons_of_mem _ h3
theorem xpd_len (ad : Nat → Nat) : ∀ (vs : List Value), (lg_sl (vs.map (cv ad))).length = (xpd vs).length
  | [] => rfl
  | a :: t => by
    have e : xpd (a :: t) = (if a.category = 2 then [a, uu] else [a]) ++ xpd t := by simp [xpd]
    have e2 : lg_sl ((a :: t).map (cv ad)) = (if a.category = 2 then [Slot.val (cv ad a), .second] else [.val (cv ad a)]) ++ lg_sl (t.map (cv ad)) := by simp [lg_sl, cv_cat]
    rw [e, e2, List.length_append, List.length_append, xpd_len ad t]
    split <;> rfl
theorem mLoc_ent {ad : Nat → Nat} {n : Nat} {vs : List Value} (h : (xpd vs).length ≤ n) : mLoc ad n (ent n vs) ((lg_sl (vs.map (cv ad)) ++ List.replicate (n - (lg_sl (vs.map (cv ad))).length) Slot.unset).toArray) := by
  have hl := lv_entry (vs.map (cv ad)) (n := n) (by rw [xpd_len]; exact h)
  refine ⟨?_, hl.1, hl.2.1, fun i v hv hk => ?_⟩
  · unfold ent
    rw [List.length_append, List.length_replicate]
    omega
  · unfold ent at hv
    by_cases hi : i < (xpd vs).length
    · rw [List.getElem?_append_left hi] at hv
      have h2 := hl.2.2 _ (ent_mem ad vs 0 i v hv hk)
      rw [Nat.zero_add] at h2
      exact h2
    · rw [List.getElem?_append_right (by omega), List.getElem?_replicate] at hv
      split at hv
      · cases hv
        simp [kn] at hk
      · cases hv
theorem stat_sane {M : mM} {idx i : Nat} {ls st : List Value} {σ : mSt} {M' : mM} {vs : List Value} {i' : Nat} {ls' st' : List Value} (h : doStat M idx i ls st σ = some (.inr (.inl (M', vs, i', ls', st')))) : (∃ n, mSane M' n) ∧ (xpd vs).length ≤ mL M' := by
  unfold doStat at h
  split at h
  · rename_i M2 n hz
    split at h
    · obtain ⟨rfl, rfl, -, -, -, hx1, -⟩ := doCall_inv h
      exact ⟨⟨n, (mRz_ok hz).2⟩, hx1⟩
    · cases h
  · unfold doCopy at h
    (repeat' split at h) <;> cases h
  all_goals ((repeat' split at h) <;> cases h)
theorem virt_sane {M : mM} {idx i : Nat} {ls st : List Value} {M' : mM} {vs : List Value} {i' : Nat} {ls' st' : List Value} (h : doVirt M idx i ls st = some (.inr (.inl (M', vs, i', ls', st')))) : (∃ n, mSane M' n) ∧ (xpd vs).length ≤ mL M' := by
  unfold doVirt at h
  split at h
  · rename_i M2 n hz
    split at h
    · split at h
      · split at h
        · obtain ⟨rfl, rfl, -, -, -, hx1, -⟩ := doCall_inv h
          exact ⟨⟨n, (mRz_ok hz).2⟩, hx1⟩
        · cases h
      · cases h
    · cases h
  · cases h
theorem stat_noret {M : mM} {idx i : Nat} {ls st : List Value} {σ : mSt} {r : Option Value} (h : doStat M idx i ls st σ = some (.inr (.inr r))) : False := by
  unfold doStat at h
  split at h
  · split at h
    · unfold doCall at h
      split at h <;> cases h
    · cases h
  · unfold doCopy at h
    (repeat' split at h) <;> cases h
  all_goals ((repeat' split at h) <;> cases h)
theorem virt_nonx {M : mM} {idx i : Nat} {ls st : List Value} {r : mRes} (h : doVirt M idx i ls st = r) : r = none ∨ ∃ q, r = some (.inr (.inl q)) := by
  subst h
  unfold doVirt doCall
  (repeat' split) <;> simp
section MAIN
variable {p : Program} {l : Launch} {e : Env} {R : Room} {s : State} {m : MethodId} {args : Array Value} {below : List Frame} {meth : Method} {c : Code} {cells slots : Nat} {Qm : State → Prop} {D : va_G} {tys : List (ClassId × FieldType)} {ad : Nat → Nat} {cA : Nat → ClassId} {A : Nat → Prop} {E : mEn} {M : mM} {Q : mPost}
set_option maxHeartbeats 4000000 in
theorem main_cl (C : mCx p R s m args c cells slots D tys ad cA A E M) (d : Nat) (hfr : d + 1 ≤ R.frames) (hlo : 64 * (d + 1) ≤ R.locals)
    (hcs : ∀ (M' : mM) (n : Nat) (vs : List Value) (σ : mSt) (P : mPost), mSane M' n → (xpd vs).length ≤ mL M' → csE E d M' vs σ P → ∃ d', d = d' + 1 ∧ Met l (mY M') (mW M') (mRoom d') (va_Pc (vs.map (cv ad)) (mWd D tys ad cA A E σ)) (mQc D tys ad cA A E P) 0 0 A)
    (hR1 : ∀ (i : Nat) (v : Int32) (σ : mSt) (H : Heap) (locs : List Loc) (lsr : Array Slot), decode (mC M) i = .ok (.ireturn, 1) → (mR M = some .int ∨ (mR M = some .boolean ∧ (v = 0 ∨ v = 1))) → Q (some (.int v)) σ → mWo D ad cA A s.heap σ H locs → W p l e R s m args below meth c H locs cells slots Qm (F0 m i lsr [.int v]))
    (hR2 : ∀ (i : Nat) (v : Int64) (σ : mSt) (H : Heap) (locs : List Loc) (lsr : Array Slot), decode (mC M) i = .ok (.lreturn, 1) → mR M = some .long → Q (some (.long v)) σ → mWo D ad cA A s.heap σ H locs → W p l e R s m args below meth c H locs cells slots Qm (F0 m i lsr [.long v]))
    (hR3 : ∀ (i : Nat) (σ : mSt) (H : Heap) (locs : List Loc) (lsr : Array Slot), decode (mC M) i = .ok (.return_, 1) → mR M = none → Q none σ → mWo D ad cA A s.heap σ H locs → W p l e R s m args below meth c H locs cells slots Qm (F0 m i lsr [])) :
    ∀ (i : Nat) (ls st : List Value) (σ : mSt), exS (csE E d) Q (mG p l e R s m args below meth c cells slots Qm D ad cA A M) σ (stp E M i ls st σ) → mG p l e R s m args below meth c cells slots Qm D ad cA A M i ls st σ := by
  intro i ls st σ hx
  unfold stp at hx
  split at hx
  · rename_i ins len hd
    cases ins
    all_goals (first | exact False.elim hx | skip)
    case aload_n k0 =>
      dsimp only [stpI] at hx
      split at hx
      · rename_i hlen
        subst hlen
        obtain ⟨i', ls', st', σ', h, k⟩ := ex_nx nc_ldA hx
        exact g_aload_n C hd h k
      · exact False.elim hx
    case iload_n k0 =>
      dsimp only [stpI] at hx
      split at hx
      · rename_i hlen
        subst hlen
        obtain ⟨i', ls', st', σ', h, k⟩ := ex_nx nc_ldI hx
        exact g_iload_n C hd h k
      · exact False.elim hx
    case lload_n k0 =>
      dsimp only [stpI] at hx
      split at hx
      · rename_i hlen
        subst hlen
        obtain ⟨i', ls', st', σ', h, k⟩ := ex_nx nc_ldJ hx
        exact g_lload_n C hd h k
      · exact False.elim hx
    case aload k0 =>
      dsimp only [stpI] at hx
      split at hx
      · rename_i hlen
        subst hlen
        obtain ⟨i', ls', st', σ', h, k⟩ := ex_nx nc_ldA hx
        exact g_aload C hd h k
      · exact False.elim hx
    case iload k0 =>
      dsimp only [stpI] at hx
      split at hx
      · rename_i hlen
        subst hlen
        obtain ⟨i', ls', st', σ', h, k⟩ := ex_nx nc_ldI hx
        exact g_iload C hd h k
      · exact False.elim hx
    case lload k0 =>
      dsimp only [stpI] at hx
      split at hx
      · rename_i hlen
        subst hlen
        obtain ⟨i', ls', st', σ', h, k⟩ := ex_nx nc_ldJ hx
        exact g_lload C hd h k
      · exact False.elim hx
    case astore_n k0 =>
      dsimp only [stpI] at hx
      split at hx
      · rename_i hlen
        subst hlen
        obtain ⟨i', ls', st', σ', h, k⟩ := ex_nx nc_stA hx
        exact g_astore_n C hd h k
      · exact False.elim hx
    case istore_n k0 =>
      dsimp only [stpI] at hx
      split at hx
      · rename_i hlen
        subst hlen
        obtain ⟨i', ls', st', σ', h, k⟩ := ex_nx nc_stI hx
        exact g_istore_n C hd h k
      · exact False.elim hx
    case lstore_n k0 =>
      dsimp only [stpI] at hx
      split at hx
      · rename_i hlen
        subst hlen
        obtain ⟨i', ls', st', σ', h, k⟩ := ex_nx nc_stJ hx
        exact g_lstore_n C hd h k
      · exact False.elim hx
    case astore k0 =>
      dsimp only [stpI] at hx
      split at hx
      · rename_i hlen
        subst hlen
        obtain ⟨i', ls', st', σ', h, k⟩ := ex_nx nc_stA hx
        exact g_astore C hd h k
      · exact False.elim hx
    case istore k0 =>
      dsimp only [stpI] at hx
      split at hx
      · rename_i hlen
        subst hlen
        obtain ⟨i', ls', st', σ', h, k⟩ := ex_nx nc_stI hx
        exact g_istore C hd h k
      · exact False.elim hx
    case lstore k0 =>
      dsimp only [stpI] at hx
      split at hx
      · rename_i hlen
        subst hlen
        obtain ⟨i', ls', st', σ', h, k⟩ := ex_nx nc_stJ hx
        exact g_lstore C hd h k
      · exact False.elim hx
    case iinc k0 n =>
      dsimp only [stpI] at hx
      split at hx
      · rename_i hlen
        subst hlen
        obtain ⟨i', ls', st', σ', h, k⟩ := ex_nx nc_doIinc hx
        exact g_iinc C hd h k
      · exact False.elim hx
    case iconst n =>
      dsimp only [stpI] at hx
      split at hx
      · rename_i hlen
        subst hlen
        obtain ⟨i', ls', st', σ', h, k⟩ := ex_nx nc_nx hx
        exact g_iconst C hd h k
      · exact False.elim hx
    case bipush n =>
      dsimp only [stpI] at hx
      split at hx
      · rename_i hlen
        subst hlen
        obtain ⟨i', ls', st', σ', h, k⟩ := ex_nx nc_nx hx
        exact g_bipush C hd h k
      · exact False.elim hx
    case sipush n =>
      dsimp only [stpI] at hx
      split at hx
      · rename_i hlen
        subst hlen
        obtain ⟨i', ls', st', σ', h, k⟩ := ex_nx nc_nx hx
        exact g_sipush C hd h k
      · exact False.elim hx
    case lconst n =>
      dsimp only [stpI] at hx
      split at hx
      · rename_i hlen
        subst hlen
        obtain ⟨i', ls', st', σ', h, k⟩ := ex_nx nc_nx hx
        exact g_lconst C hd h k
      · exact False.elim hx
    case ldc idx =>
      dsimp only [stpI] at hx
      split at hx
      · rename_i hlen
        subst hlen
        obtain ⟨i', ls', st', σ', h, k⟩ := ex_nx nc_doLdc hx
        exact g_ldc C hd h k
      · exact False.elim hx
    case ldc_w idx =>
      dsimp only [stpI] at hx
      split at hx
      · rename_i hlen
        subst hlen
        obtain ⟨i', ls', st', σ', h, k⟩ := ex_nx nc_doLdc hx
        exact g_ldc_w C hd h k
      · exact False.elim hx
    case ldc2_w idx =>
      dsimp only [stpI] at hx
      split at hx
      · rename_i hlen
        subst hlen
        obtain ⟨i', ls', st', σ', h, k⟩ := ex_nx nc_doLdc2 hx
        exact g_ldc2 C hd h k
      · exact False.elim hx
    case iadd  =>
      dsimp only [stpI] at hx
      split at hx
      · rename_i hlen
        subst hlen
        obtain ⟨i', ls', st', σ', h, k⟩ := ex_nx nc_o2 hx
        exact g_iadd C hd h k
      · exact False.elim hx
    case isub  =>
      dsimp only [stpI] at hx
      split at hx
      · rename_i hlen
        subst hlen
        obtain ⟨i', ls', st', σ', h, k⟩ := ex_nx nc_o2 hx
        exact g_isub C hd h k
      · exact False.elim hx
    case imul  =>
      dsimp only [stpI] at hx
      split at hx
      · rename_i hlen
        subst hlen
        obtain ⟨i', ls', st', σ', h, k⟩ := ex_nx nc_o2 hx
        exact g_imul C hd h k
      · exact False.elim hx
    case iand  =>
      dsimp only [stpI] at hx
      split at hx
      · rename_i hlen
        subst hlen
        obtain ⟨i', ls', st', σ', h, k⟩ := ex_nx nc_o2 hx
        exact g_iand C hd h k
      · exact False.elim hx
    case ior  =>
      dsimp only [stpI] at hx
      split at hx
      · rename_i hlen
        subst hlen
        obtain ⟨i', ls', st', σ', h, k⟩ := ex_nx nc_o2 hx
        exact g_ior C hd h k
      · exact False.elim hx
    case ixor  =>
      dsimp only [stpI] at hx
      split at hx
      · rename_i hlen
        subst hlen
        obtain ⟨i', ls', st', σ', h, k⟩ := ex_nx nc_o2 hx
        exact g_ixor C hd h k
      · exact False.elim hx
    case ishl  =>
      dsimp only [stpI] at hx
      split at hx
      · rename_i hlen
        subst hlen
        obtain ⟨i', ls', st', σ', h, k⟩ := ex_nx nc_o2 hx
        exact g_ishl C hd h k
      · exact False.elim hx
    case ishr  =>
      dsimp only [stpI] at hx
      split at hx
      · rename_i hlen
        subst hlen
        obtain ⟨i', ls', st', σ', h, k⟩ := ex_nx nc_o2 hx
        exact g_ishr C hd h k
      · exact False.elim hx
    case idiv  =>
      dsimp only [stpI] at hx
      split at hx
      · rename_i hlen
        subst hlen
        obtain ⟨i', ls', st', σ', h, k⟩ := ex_nx nc_o2d hx
        exact g_idiv C hd h k
      · exact False.elim hx
    case irem  =>
      dsimp only [stpI] at hx
      split at hx
      · rename_i hlen
        subst hlen
        obtain ⟨i', ls', st', σ', h, k⟩ := ex_nx nc_o2d hx
        exact g_irem C hd h k
      · exact False.elim hx
    case ineg  =>
      dsimp only [stpI] at hx
      split at hx
      · rename_i hlen
        subst hlen
        obtain ⟨i', ls', st', σ', h, k⟩ := ex_nx nc_o1 hx
        exact g_ineg C hd h k
      · exact False.elim hx
    case i2l  =>
      dsimp only [stpI] at hx
      split at hx
      · rename_i hlen
        subst hlen
        obtain ⟨i', ls', st', σ', h, k⟩ := ex_nx nc_o1 hx
        exact g_i2l C hd h k
      · exact False.elim hx
    case i2b  =>
      dsimp only [stpI] at hx
      split at hx
      · rename_i hlen
        subst hlen
        obtain ⟨i', ls', st', σ', h, k⟩ := ex_nx nc_o1 hx
        exact g_i2b C hd h k
      · exact False.elim hx
    case i2s  =>
      dsimp only [stpI] at hx
      split at hx
      · rename_i hlen
        subst hlen
        obtain ⟨i', ls', st', σ', h, k⟩ := ex_nx nc_o1 hx
        exact g_i2s C hd h k
      · exact False.elim hx
    case l2i  =>
      dsimp only [stpI] at hx
      split at hx
      · rename_i hlen
        subst hlen
        obtain ⟨i', ls', st', σ', h, k⟩ := ex_nx nc_p1 hx
        exact g_l2i C hd h k
      · exact False.elim hx
    case ladd  =>
      dsimp only [stpI] at hx
      split at hx
      · rename_i hlen
        subst hlen
        obtain ⟨i', ls', st', σ', h, k⟩ := ex_nx nc_p2 hx
        exact g_ladd C hd h k
      · exact False.elim hx
    case lsub  =>
      dsimp only [stpI] at hx
      split at hx
      · rename_i hlen
        subst hlen
        obtain ⟨i', ls', st', σ', h, k⟩ := ex_nx nc_p2 hx
        exact g_lsub C hd h k
      · exact False.elim hx
    case lmul  =>
      dsimp only [stpI] at hx
      split at hx
      · rename_i hlen
        subst hlen
        obtain ⟨i', ls', st', σ', h, k⟩ := ex_nx nc_p2 hx
        exact g_lmul C hd h k
      · exact False.elim hx
    case land  =>
      dsimp only [stpI] at hx
      split at hx
      · rename_i hlen
        subst hlen
        obtain ⟨i', ls', st', σ', h, k⟩ := ex_nx nc_p2 hx
        exact g_land C hd h k
      · exact False.elim hx
    case lor  =>
      dsimp only [stpI] at hx
      split at hx
      · rename_i hlen
        subst hlen
        obtain ⟨i', ls', st', σ', h, k⟩ := ex_nx nc_p2 hx
        exact g_lor C hd h k
      · exact False.elim hx
    case ldiv  =>
      dsimp only [stpI] at hx
      split at hx
      · rename_i hlen
        subst hlen
        obtain ⟨i', ls', st', σ', h, k⟩ := ex_nx nc_p2d hx
        exact g_ldiv C hd h k
      · exact False.elim hx
    case lrem  =>
      dsimp only [stpI] at hx
      split at hx
      · rename_i hlen
        subst hlen
        obtain ⟨i', ls', st', σ', h, k⟩ := ex_nx nc_p2d hx
        exact g_lrem C hd h k
      · exact False.elim hx
    case lshl  =>
      dsimp only [stpI] at hx
      split at hx
      · rename_i hlen
        subst hlen
        obtain ⟨i', ls', st', σ', h, k⟩ := ex_nx nc_doShl hx
        exact g_lshl C hd h k
      · exact False.elim hx
    case lcmp  =>
      dsimp only [stpI] at hx
      split at hx
      · rename_i hlen
        subst hlen
        obtain ⟨i', ls', st', σ', h, k⟩ := ex_nx nc_doLcmp hx
        exact g_lcmp C hd h k
      · exact False.elim hx
    case ifCond q off =>
      dsimp only [stpI] at hx
      split at hx
      · rename_i hlen
        subst hlen
        obtain ⟨i', ls', st', σ', h, k⟩ := ex_nx nc_doIf hx
        exact g_ifCond C hd h k
      · exact False.elim hx
    case if_icmp q off =>
      dsimp only [stpI] at hx
      split at hx
      · rename_i hlen
        subst hlen
        obtain ⟨i', ls', st', σ', h, k⟩ := ex_nx nc_doIf2 hx
        exact g_if_icmp C hd h k
      · exact False.elim hx
    case goto off =>
      dsimp only [stpI] at hx
      split at hx
      · rename_i hlen
        subst hlen
        obtain ⟨i', ls', st', σ', h, k⟩ := ex_nx nc_jp hx
        exact g_goto C hd h k
      · exact False.elim hx
    case ifnull off =>
      dsimp only [stpI] at hx
      split at hx
      · rename_i hlen
        subst hlen
        obtain ⟨i', ls', st', σ', h, k⟩ := ex_nx nc_doNull hx
        exact g_ifnull C hd h k
      · exact False.elim hx
    case dup  =>
      dsimp only [stpI] at hx
      split at hx
      · rename_i hlen
        subst hlen
        obtain ⟨i', ls', st', σ', h, k⟩ := ex_nx nc_doDup hx
        exact g_dup C hd h k
      · exact False.elim hx
    case dup2  =>
      dsimp only [stpI] at hx
      split at hx
      · rename_i hlen
        subst hlen
        obtain ⟨i', ls', st', σ', h, k⟩ := ex_nx nc_doDup2 hx
        exact g_dup2 C hd h k
      · exact False.elim hx
    case pop  =>
      dsimp only [stpI] at hx
      split at hx
      · rename_i hlen
        subst hlen
        obtain ⟨i', ls', st', σ', h, k⟩ := ex_nx nc_doPop hx
        exact g_pop C hd h k
      · exact False.elim hx
    case arraylength  =>
      dsimp only [stpI] at hx
      split at hx
      · rename_i hlen
        subst hlen
        obtain ⟨i', ls', st', σ', h, k⟩ := ex_nx nc_doLen hx
        exact g_arraylength C hd h k
      · exact False.elim hx
    case iaload  =>
      dsimp only [stpI] at hx
      split at hx
      · rename_i hlen
        subst hlen
        obtain ⟨i', ls', st', σ', h, k⟩ := ex_nx nc_doAld hx
        exact g_iaload C hd h k
      · exact False.elim hx
    case iastore  =>
      dsimp only [stpI] at hx
      split at hx
      · rename_i hlen
        subst hlen
        obtain ⟨i', ls', st', σ', h, k⟩ := ex_nx nc_doAst hx
        exact g_iastore C hd h k
      · exact False.elim hx
    case baload  =>
      dsimp only [stpI] at hx
      split at hx
      · rename_i hlen
        subst hlen
        obtain ⟨i', ls', st', σ', h, k⟩ := ex_nx nc_doBld hx
        exact g_baload C hd h k
      · exact False.elim hx
    case bastore  =>
      dsimp only [stpI] at hx
      split at hx
      · rename_i hlen
        subst hlen
        obtain ⟨i', ls', st', σ', h, k⟩ := ex_nx nc_doBst hx
        exact g_bastore C hd h k
      · exact False.elim hx
    case laload  =>
      dsimp only [stpI] at hx
      split at hx
      · rename_i hlen
        subst hlen
        obtain ⟨i', ls', st', σ', h, k⟩ := ex_nx nc_doLld hx
        exact g_laload C hd h k
      · exact False.elim hx
    case lastore  =>
      dsimp only [stpI] at hx
      split at hx
      · rename_i hlen
        subst hlen
        obtain ⟨i', ls', st', σ', h, k⟩ := ex_nx nc_doLst hx
        exact g_lastore C hd h k
      · exact False.elim hx
    case aaload  =>
      dsimp only [stpI] at hx
      split at hx
      · rename_i hlen
        subst hlen
        obtain ⟨i', ls', st', σ', h, k⟩ := ex_nx nc_doQld hx
        exact g_aaload C hd h k
      · exact False.elim hx
    case getfield idx =>
      dsimp only [stpI] at hx
      split at hx
      · rename_i hlen
        subst hlen
        obtain ⟨i', ls', st', σ', h, k⟩ := ex_nx nc_doGet hx
        exact g_getfield C hd h k
      · exact False.elim hx
    case putfield idx =>
      dsimp only [stpI] at hx
      split at hx
      · rename_i hlen
        subst hlen
        obtain ⟨i', ls', st', σ', h, k⟩ := ex_nx nc_doPut hx
        exact g_putfield C hd h k
      · exact False.elim hx
    case getstatic idx =>
      dsimp only [stpI] at hx
      split at hx
      · rename_i hlen
        subst hlen
        obtain ⟨i', ls', st', σ', h, k⟩ := ex_nx nc_doGets hx
        exact g_getstatic C hd h k
      · exact False.elim hx
    case tableswitch d0 lo hi offs =>
      dsimp only [stpI] at hx
      obtain ⟨i', ls', st', σ', h, k⟩ := ex_nx nc_doSw hx
      exact g_table C hd h k
    case lookupswitch d0 ps =>
      dsimp only [stpI] at hx
      obtain ⟨i', ls', st', σ', h, k⟩ := ex_nx nc_doLk hx
      exact g_lookup C hd h k
    case invokestatic idx =>
      dsimp only [stpI] at hx
      split at hx
      · rename_i hlen
        subst hlen
        cases hr : doStat M idx i ls st σ with
        | none => rw [hr] at hx; exact False.elim hx
        | some q =>
          match q, hr with
          | .inl (i', ls', st', σ'), hr => rw [hr] at hx; exact g_stat C hd hr hx
          | .inr (.inl (M', vs, i', ls', st')), hr =>
            rw [hr] at hx
            obtain ⟨⟨n, hs⟩, hle⟩ := stat_sane hr
            obtain ⟨d', rfl, hM⟩ := hcs M' n vs σ _ hs hle hx
            exact g_callS C hd hr hfr hlo hM (fun r σ' h => h)
          | .inr (.inr r), hr => exact (stat_noret hr).elim
      · exact False.elim hx
    case invokevirtual idx =>
      dsimp only [stpI] at hx
      split at hx
      · rename_i hlen
        subst hlen
        rcases virt_nonx (rfl : doVirt M idx i ls st = _) with hr | ⟨⟨M', vs, i', ls', st'⟩, hr⟩
        · rw [hr] at hx; exact False.elim hx
        · rw [hr] at hx
          obtain ⟨⟨n, hs⟩, hle⟩ := virt_sane hr
          obtain ⟨d', rfl, hM⟩ := hcs M' n vs σ _ hs hle hx
          exact g_callV C hd hr hfr hlo hM (fun r σ' h => h)
      · exact False.elim hx
    case ireturn =>
      dsimp only [stpI] at hx
      split at hx
      · rename_i hlen
        subst hlen
        unfold doRet at hx
        split at hx
        · split at hx
          · rename_i hm
            intro H locs lsr hw hl
            exact hR1 i _ σ H locs lsr hd (Or.inl hm) hx hw
          · split at hx
            · rename_i hm
              intro H locs lsr hw hl
              exact hR1 i _ σ H locs lsr hd (Or.inr hm) hx hw
            · exact False.elim hx
        · exact False.elim hx
      · exact False.elim hx
    case lreturn =>
      dsimp only [stpI] at hx
      split at hx
      · rename_i hlen
        subst hlen
        unfold doRetJ at hx
        split at hx
        · split at hx
          · rename_i hm
            intro H locs lsr hw hl
            exact hR2 i _ σ H locs lsr hd hm hx hw
          · exact False.elim hx
        · exact False.elim hx
      · exact False.elim hx
    case return_ =>
      dsimp only [stpI] at hx
      split at hx
      · rename_i hlen
        subst hlen
        unfold doRetV at hx
        split at hx
        · split at hx
          · rename_i hm
            intro H locs lsr hw hl
            exact hR3 i σ H locs lsr hd hm hx hw
          · exact False.elim hx
        · exact False.elim hx
      · exact False.elim hx
  · exact False.elim hx
end MAIN
set_option maxHeartbeats 4000000 in
theorem Snd_body (d : Nat) {l : Launch} {E : mEn} {M : mM} {n : Nat} (hs : mSane M n) {vs : List Value} {σ : mSt} {P : mPost} (hlen : (xpd vs).length ≤ mL M) (w : WP E d M 0 (ent (mL M) vs) [] σ P) (D : va_G) (tys : List (ClassId × FieldType)) (ad : Nat → Nat) (cA : Nat → ClassId) (A : Nat → Prop)
    (hcs : ∀ (M' : mM) (n : Nat) (vs : List Value) (σ : mSt) (P : mPost), mSane M' n → (xpd vs).length ≤ mL M' → csE E d M' vs σ P → ∃ d', d = d' + 1 ∧ Met l (mY M') (mW M') (mRoom d') (va_Pc (vs.map (cv ad)) (mWd D tys ad cA A E σ)) (mQc D tys ad cA A E P) 0 0 A) :
    Met l (mY M) (mW M) (mRoom d) (va_Pc (vs.map (cv ad)) (mWd D tys ad cA A E σ)) (mQc D tys ad cA A E P) 0 0 A := by
  obtain ⟨h1, h2, h3, h4⟩ := id hs
  refine Met.ofW (cc := mC M) (maxL := mL M) (ret := mR M) (mCN_ok h1 h2).1 rfl ?_
  intro p e s m args below meth c s₁ B hml hv
  obtain ⟨rfl, hP, hD, hK, hTy, hEx⟩ := hv
  have hx := B.exec
  have hb := B.bytes
  have hr := B.returns
  have hts := atoms_spec (ws := mW M) B.pre
  have hown : s.vm.findClass (mY M).cls = some m.cls := findClass_of_methodNamed B.named
  have hlocks := B.notSynchronized
  have C : mCx p (headSpec (mW M) (mRoom d)).room s m (vs.map (cv ad)).toArray c 0 0 D tys ad cA A E M := ⟨hx, hb, hml, hown, h1, fun w hw => hts w (List.mem_cons_of_mem _ hw), hK, hTy, hEx, Nat.le_refl 0, Nat.le_refl 0, Nat.le_add_left 1 d, by show 64 ≤ 64 * (d + 1); omega⟩
  rw [lg_entry_eq]
  rw [WP_lfp] at w
  have fin : ∀ {σ : mSt} {H : Heap} {locs : List Loc} {r : Option Value} {rv : Option Value}, rv = r.map (cv ad) → P r σ → mWo D ad cA A s.heap σ H locs → ∀ t : State, t.heap = H → s.WarmedH t.vm → mQc D tys ad cA A E P (vs.map (cv ad)).toArray s (.returned rv) t := fun {σ H locs r rv} e q hw t ht hW => ⟨⟨r, σ, by rw [e], q, mWd_of C hw ht hW.alike⟩, hw.2.2.F ht⟩
  refine w (mG p l e (headSpec (mW M) (mRoom d)).room s m (vs.map (cv ad)).toArray below meth c 0 0 (MQ below (mQc D tys ad cA A E P) (vs.map (cv ad)).toArray s 0 0 A) D ad cA A M) (main_cl C d (Nat.le_refl _) (Nat.le_refl _) hcs ?_ ?_ ?_) s.heap [] _ ⟨hP, hD, va_S.rf⟩ (mLoc_ent hlen)
  · intro i v σ H locs lsr hd hm q hw
    rcases hm with hm | ⟨hm, hv⟩
    · exact W.iret hx hb (by rw [hr]; exact hm) (fin (r := some (.int v)) rfl q hw) hw.2.2.2.2 hd hlocks
    · exact W.zret (ty := .boolean) hx hb (by rw [hr]; exact hm) (by rcases hv with rfl | rfl <;> rfl) (fin (r := some (.int v)) rfl q hw) hw.2.2.2.2 hd hlocks
  · intro i v σ H locs lsr hd hm q hw
    exact W.lret hx hb (by rw [hr]; exact hm) (fin (r := some (.long v)) rfl q hw) hw.2.2.2.2 hd hlocks
  · intro i σ H locs lsr hd hm q hw
    exact W.vret hx hb (by rw [hr]; exact hm) (fin (r := none) rfl q hw) hw.2.2.2.2 hd hlocks
set_option maxHeartbeats 4000000 in
/-- what the machine says of a method is a contract of it -/
theorem Snd : ∀ (d : Nat) {l : Launch} {E : mEn} {M : mM} {n : Nat}, mSane M n → ∀ {vs : List Value} {σ : mSt} {P : mPost}, (xpd vs).length ≤ mL M → WP E d M 0 (ent (mL M) vs) [] σ P → ∀ (D : va_G) (tys : List (ClassId × FieldType)) (ad : Nat → Nat) (cA : Nat → ClassId) (A : Nat → Prop), Met l (mY M) (mW M) (mRoom d) (va_Pc (vs.map (cv ad)) (mWd D tys ad cA A E σ)) (mQc D tys ad cA A E P) 0 0 A := by
  intro d
  induction d with
  | zero =>
    intro l E M n hs vs σ P hlen w D tys ad cA A
    exact Snd_body 0 hs hlen w D tys ad cA A (fun M' n vs σ P _ _ h => False.elim h)
  | succ d ih =>
    intro l E M n hs vs σ P hlen w D tys ad cA A
    exact Snd_body (d + 1) hs hlen w D tys ad cA A (fun M' n vs σ P hs' hl' h => ⟨d, rfl, ih hs' hl' h D tys ad cA A⟩)
end
section
/-! The machine's steps as equations, a rule an instruction: what the printed block rows are made of. -/
section RULES
variable {E : mEn} {d : Nat} {M : mM} {Q : mPost} {i : Nat} {ls st : List Value} {σ : mSt}
theorem w_nx {ins : Instr} {len i' : Nat} {ls' st' : List Value} {σ' : mSt} (hd : decode (mC M) i = .ok (ins, len)) (h : stpI E M ins len i ls st σ = some (.inl (i', ls', st', σ'))) : WP E d M i ls st σ Q = WP E d M i' ls' st' σ' Q := by
  rw [WP_eq]
  unfold stp
  rw [hd]
  dsimp only
  rw [h]
  rfl
theorem w_no {ins : Instr} {len : Nat} (hd : decode (mC M) i = .ok (ins, len)) (h : stpI E M ins len i ls st σ = none) : WP E d M i ls st σ Q = False := by
  rw [WP_eq]
  unfold stp
  rw [hd]
  dsimp only
  rw [h]
  rfl
theorem w_ld {ins : Instr} {len i' : Nat} {ls' st' : List Value} {σ' : mSt} (hd : decode (mC M) i = .ok (ins, len)) (h : stpI E M ins len i ls st σ = nx i' ls' st' σ') : WP E d M i ls st σ Q = WP E d M i' ls' st' σ' Q := w_nx hd h
theorem w_aload_n {k : Fin 4} {a : Nat} (hd : decode (mC M) i = .ok (.aload_n k, 1)) (h : ls[(k : Nat)]? = some (.ref a)) : WP E d M i ls st σ Q = WP E d M (i + 1) ls (.ref a :: st) σ Q := w_nx hd (by simp only [stpI, ldA, if_true, h]; rfl)
theorem w_iload_n {k : Fin 4} {a : Int32} (hd : decode (mC M) i = .ok (.iload_n k, 1)) (h : ls[(k : Nat)]? = some (.int a)) : WP E d M i ls st σ Q = WP E d M (i + 1) ls (.int a :: st) σ Q := w_nx hd (by simp only [stpI, ldI, if_true, h]; rfl)
theorem w_lload_n {k : Fin 4} {a : Int64} (hd : decode (mC M) i = .ok (.lload_n k, 1)) (h : ls[(k : Nat)]? = some (.long a)) : WP E d M i ls st σ Q = WP E d M (i + 1) ls (.long a :: st) σ Q := w_nx hd (by simp only [stpI, ldJ, if_true, h]; rfl)
theorem w_aload {k : Nat} {a : Nat} (hd : decode (mC M) i = .ok (.aload k, 2)) (h : ls[k]? = some (.ref a)) : WP E d M i ls st σ Q = WP E d M (i + 2) ls (.ref a :: st) σ Q := w_nx hd (by simp only [stpI, ldA, if_true, h]; rfl)
theorem w_iload {k : Nat} {a : Int32} (hd : decode (mC M) i = .ok (.iload k, 2)) (h : ls[k]? = some (.int a)) : WP E d M i ls st σ Q = WP E d M (i + 2) ls (.int a :: st) σ Q := w_nx hd (by simp only [stpI, ldI, if_true, h]; rfl)
theorem w_lload {k : Nat} {a : Int64} (hd : decode (mC M) i = .ok (.lload k, 2)) (h : ls[k]? = some (.long a)) : WP E d M i ls st σ Q = WP E d M (i + 2) ls (.long a :: st) σ Q := w_nx hd (by simp only [stpI, ldJ, if_true, h]; rfl)
theorem w_istore_n {k : Fin 4} {a : Int32} {ls' : List Value} (hd : decode (mC M) i = .ok (.istore_n k, 1)) (h : (k : Nat) < ls.length) (h2 : lst1 ls k (.int a) = ls') : WP E d M i ls (.int a :: st) σ Q = WP E d M (i + 1) ls' st σ Q := w_nx hd (by simp only [stpI, stI, if_true, h, h2]; rfl)
theorem w_astore_n {k : Fin 4} {a : Nat} {ls' : List Value} (hd : decode (mC M) i = .ok (.astore_n k, 1)) (h : (k : Nat) < ls.length) (h2 : lst1 ls k (.ref a) = ls') : WP E d M i ls (.ref a :: st) σ Q = WP E d M (i + 1) ls' st σ Q := w_nx hd (by simp only [stpI, stA, if_true, h, h2]; rfl)
theorem w_lstore_n {k : Fin 4} {a : Int64} {ls' : List Value} (hd : decode (mC M) i = .ok (.lstore_n k, 1)) (h : (k : Nat) + 1 < ls.length) (h2 : lst2 ls k (.long a) = ls') : WP E d M i ls (.long a :: st) σ Q = WP E d M (i + 1) ls' st σ Q := w_nx hd (by simp only [stpI, stJ, if_true, h, h2]; rfl)
theorem w_istore {k : Nat} {a : Int32} {ls' : List Value} (hd : decode (mC M) i = .ok (.istore k, 2)) (h : k < ls.length) (h2 : lst1 ls k (.int a) = ls') : WP E d M i ls (.int a :: st) σ Q = WP E d M (i + 2) ls' st σ Q := w_nx hd (by simp only [stpI, stI, if_true, h, h2]; rfl)
theorem w_astore {k : Nat} {a : Nat} {ls' : List Value} (hd : decode (mC M) i = .ok (.astore k, 2)) (h : k < ls.length) (h2 : lst1 ls k (.ref a) = ls') : WP E d M i ls (.ref a :: st) σ Q = WP E d M (i + 2) ls' st σ Q := w_nx hd (by simp only [stpI, stA, if_true, h, h2]; rfl)
theorem w_lstore {k : Nat} {a : Int64} {ls' : List Value} (hd : decode (mC M) i = .ok (.lstore k, 2)) (h : k + 1 < ls.length) (h2 : lst2 ls k (.long a) = ls') : WP E d M i ls (.long a :: st) σ Q = WP E d M (i + 2) ls' st σ Q := w_nx hd (by simp only [stpI, stJ, if_true, h, h2]; rfl)
theorem w_iinc {k : Nat} {n : Int} {a v : Int32} {ls' : List Value} (hd : decode (mC M) i = .ok (.iinc k n, 3)) (h : ls[k]? = some (.int a)) (hv : Int32.ofInt n = v) (h2 : lst1 ls k (.int (a + v)) = ls') : WP E d M i ls st σ Q = WP E d M (i + 3) ls' st σ Q := by
  subst hv
  exact w_nx hd (by simp only [stpI, doIinc, if_true, h, h2]; rfl)
theorem w_iconst {n : Int} {v : Int32} (hd : decode (mC M) i = .ok (.iconst n, 1)) (hv : Int32.ofInt n = v) : WP E d M i ls st σ Q = WP E d M (i + 1) ls (.int v :: st) σ Q := by subst hv; exact w_nx hd rfl
theorem w_bipush {n : Int} {v : Int32} (hd : decode (mC M) i = .ok (.bipush n, 2)) (hv : (Int8.ofInt n).toInt32 = v) : WP E d M i ls st σ Q = WP E d M (i + 2) ls (.int v :: st) σ Q := by subst hv; exact w_nx hd rfl
theorem w_sipush {n : Int} {v : Int32} (hd : decode (mC M) i = .ok (.sipush n, 3)) (hv : (Int16.ofInt n).toInt32 = v) : WP E d M i ls st σ Q = WP E d M (i + 3) ls (.int v :: st) σ Q := by subst hv; exact w_nx hd rfl
theorem w_lconst {n : Fin 2} {v : Int64} (hd : decode (mC M) i = .ok (.lconst n, 1)) (hv : Int64.ofNat n = v) : WP E d M i ls st σ Q = WP E d M (i + 1) ls (.long v :: st) σ Q := by subst hv; exact w_nx hd rfl
theorem w_ldc {idx : Nat} {v : Int32} (hd : decode (mC M) i = .ok (.ldc idx, 2)) (h : mRz (mK M) idx = some (.inr (.inr (.inl v)))) : WP E d M i ls st σ Q = WP E d M (i + 2) ls (.int v :: st) σ Q := w_nx hd (by simp only [stpI, doLdc, if_true, h]; rfl)
theorem w_ldc_w {idx : Nat} {v : Int32} (hd : decode (mC M) i = .ok (.ldc_w idx, 3)) (h : mRz (mK M) idx = some (.inr (.inr (.inl v)))) : WP E d M i ls st σ Q = WP E d M (i + 3) ls (.int v :: st) σ Q := w_nx hd (by simp only [stpI, doLdc, if_true, h]; rfl)
theorem w_ldc2_w {idx : Nat} {v : Int64} (hd : decode (mC M) i = .ok (.ldc2_w idx, 3)) (h : mRz (mK M) idx = some (.inr (.inr (.inr (.inl v))))) : WP E d M i ls st σ Q = WP E d M (i + 3) ls (.long v :: st) σ Q := w_nx hd (by simp only [stpI, doLdc2, if_true, h]; rfl)
theorem w_iadd {x y : Int32} (hd : decode (mC M) i = .ok (.iadd, 1)) : WP E d M i ls (.int y :: .int x :: st) σ Q = WP E d M (i + 1) ls (.int (x + y) :: st) σ Q := w_nx hd rfl
theorem w_isub {x y : Int32} (hd : decode (mC M) i = .ok (.isub, 1)) : WP E d M i ls (.int y :: .int x :: st) σ Q = WP E d M (i + 1) ls (.int (x - y) :: st) σ Q := w_nx hd rfl
theorem w_imul {x y : Int32} (hd : decode (mC M) i = .ok (.imul, 1)) : WP E d M i ls (.int y :: .int x :: st) σ Q = WP E d M (i + 1) ls (.int (x * y) :: st) σ Q := w_nx hd rfl
theorem w_iand {x y : Int32} (hd : decode (mC M) i = .ok (.iand, 1)) : WP E d M i ls (.int y :: .int x :: st) σ Q = WP E d M (i + 1) ls (.int (x &&& y) :: st) σ Q := w_nx hd rfl
theorem w_ior {x y : Int32} (hd : decode (mC M) i = .ok (.ior, 1)) : WP E d M i ls (.int y :: .int x :: st) σ Q = WP E d M (i + 1) ls (.int (x ||| y) :: st) σ Q := w_nx hd rfl
theorem w_ixor {x y : Int32} (hd : decode (mC M) i = .ok (.ixor, 1)) : WP E d M i ls (.int y :: .int x :: st) σ Q = WP E d M (i + 1) ls (.int (x ^^^ y) :: st) σ Q := w_nx hd rfl
theorem w_ishl {x y : Int32} (hd : decode (mC M) i = .ok (.ishl, 1)) : WP E d M i ls (.int y :: .int x :: st) σ Q = WP E d M (i + 1) ls (.int (x <<< (y &&& 31)) :: st) σ Q := w_nx hd rfl
theorem w_ishr {x y : Int32} (hd : decode (mC M) i = .ok (.ishr, 1)) : WP E d M i ls (.int y :: .int x :: st) σ Q = WP E d M (i + 1) ls (.int (x >>> (y &&& 31)) :: st) σ Q := w_nx hd rfl
theorem w_idiv {x y : Int32} (hd : decode (mC M) i = .ok (.idiv, 1)) (h : ¬ y = 0) : WP E d M i ls (.int y :: .int x :: st) σ Q = WP E d M (i + 1) ls (.int (x / y) :: st) σ Q := w_nx hd (by simp only [stpI, o2d, if_true, h, if_false]; rfl)
theorem w_irem {x y : Int32} (hd : decode (mC M) i = .ok (.irem, 1)) (h : ¬ y = 0) : WP E d M i ls (.int y :: .int x :: st) σ Q = WP E d M (i + 1) ls (.int (x - x / y * y) :: st) σ Q := w_nx hd (by simp only [stpI, o2d, if_true, h, if_false]; rfl)
theorem w_irem' {x y : Int32} (hd : decode (mC M) i = .ok (.irem, 1)) : WP E d M i ls (.int y :: .int x :: st) σ Q = (if y = 0 then False else WP E d M (i + 1) ls (.int (x - x / y * y) :: st) σ Q) := by
  by_cases h : y = 0
  · rw [if_pos h]; exact w_no hd (by simp only [stpI, o2d, if_true, h])
  · rw [if_neg h]; exact w_irem hd h
theorem w_ineg {x : Int32} (hd : decode (mC M) i = .ok (.ineg, 1)) : WP E d M i ls (.int x :: st) σ Q = WP E d M (i + 1) ls (.int (-x) :: st) σ Q := w_nx hd rfl
theorem w_i2l {x : Int32} (hd : decode (mC M) i = .ok (.i2l, 1)) : WP E d M i ls (.int x :: st) σ Q = WP E d M (i + 1) ls (.long x.toInt64 :: st) σ Q := w_nx hd rfl
theorem w_i2b {x : Int32} (hd : decode (mC M) i = .ok (.i2b, 1)) : WP E d M i ls (.int x :: st) σ Q = WP E d M (i + 1) ls (.int x.toInt8.toInt32 :: st) σ Q := w_nx hd rfl
theorem w_i2s {x : Int32} (hd : decode (mC M) i = .ok (.i2s, 1)) : WP E d M i ls (.int x :: st) σ Q = WP E d M (i + 1) ls (.int x.toInt16.toInt32 :: st) σ Q := w_nx hd rfl
theorem w_l2i {x : Int64} (hd : decode (mC M) i = .ok (.l2i, 1)) : WP E d M i ls (.long x :: st) σ Q = WP E d M (i + 1) ls (.int x.toInt32 :: st) σ Q := w_nx hd rfl
theorem w_ladd {x y : Int64} (hd : decode (mC M) i = .ok (.ladd, 1)) : WP E d M i ls (.long y :: .long x :: st) σ Q = WP E d M (i + 1) ls (.long (x + y) :: st) σ Q := w_nx hd rfl
theorem w_lsub {x y : Int64} (hd : decode (mC M) i = .ok (.lsub, 1)) : WP E d M i ls (.long y :: .long x :: st) σ Q = WP E d M (i + 1) ls (.long (x - y) :: st) σ Q := w_nx hd rfl
theorem w_lmul {x y : Int64} (hd : decode (mC M) i = .ok (.lmul, 1)) : WP E d M i ls (.long y :: .long x :: st) σ Q = WP E d M (i + 1) ls (.long (x * y) :: st) σ Q := w_nx hd rfl
theorem w_land {x y : Int64} (hd : decode (mC M) i = .ok (.land, 1)) : WP E d M i ls (.long y :: .long x :: st) σ Q = WP E d M (i + 1) ls (.long (x &&& y) :: st) σ Q := w_nx hd rfl
theorem w_lor {x y : Int64} (hd : decode (mC M) i = .ok (.lor, 1)) : WP E d M i ls (.long y :: .long x :: st) σ Q = WP E d M (i + 1) ls (.long (x ||| y) :: st) σ Q := w_nx hd rfl
theorem w_ldiv {x y : Int64} (hd : decode (mC M) i = .ok (.ldiv, 1)) : WP E d M i ls (.long y :: .long x :: st) σ Q = (if y = 0 then False else WP E d M (i + 1) ls (.long (x / y) :: st) σ Q) := by
  by_cases h : y = 0
  · rw [if_pos h]; exact w_no hd (by simp only [stpI, p2d, if_true, h])
  · rw [if_neg h]; exact w_nx hd (by simp only [stpI, p2d, if_true, h, if_false]; rfl)
theorem w_lrem {x y : Int64} (hd : decode (mC M) i = .ok (.lrem, 1)) : WP E d M i ls (.long y :: .long x :: st) σ Q = (if y = 0 then False else WP E d M (i + 1) ls (.long (x - x / y * y) :: st) σ Q) := by
  by_cases h : y = 0
  · rw [if_pos h]; exact w_no hd (by simp only [stpI, p2d, if_true, h])
  · rw [if_neg h]; exact w_nx hd (by simp only [stpI, p2d, if_true, h, if_false]; rfl)
theorem w_lshl {x : Int64} {y : Int32} (hd : decode (mC M) i = .ok (.lshl, 1)) : WP E d M i ls (.int y :: .long x :: st) σ Q = WP E d M (i + 1) ls (.long (x <<< (y.toInt64 &&& 63)) :: st) σ Q := w_nx hd rfl
theorem w_lcmp {x y : Int64} (hd : decode (mC M) i = .ok (.lcmp, 1)) : WP E d M i ls (.long y :: .long x :: st) σ Q = WP E d M (i + 1) ls (.int (lg_cmp x y) :: st) σ Q := w_nx hd rfl
theorem w_br {ins : Instr} {len a b : Nat} {q : Prop} [Decidable q] {st' : List Value} (hd : decode (mC M) i = .ok (ins, len)) (h : stpI E M ins len i ls st σ = nx (if q then a else b) ls st' σ) : WP E d M i ls st σ Q = (if q then WP E d M a ls st' σ Q else WP E d M b ls st' σ Q) := by
  rw [w_nx hd h]
  split <;> rfl
theorem br_eq {off : Int} {t : Nat} {q : Prop} [Decidable q] (h : (i : Int) + off = (t : Int)) : br i off q ls st σ = nx (if q then t else i + 3) ls st σ := by
  unfold br
  rw [h, if_pos (Int.natCast_nonneg t)]
  rfl
theorem jp_eq {off : Int} {t : Nat} (h : (i : Int) + off = (t : Int)) : jp i off ls st σ = nx t ls st σ := by
  unfold jp
  rw [h, if_pos (Int.natCast_nonneg t)]
  rfl
theorem w_goto {off : Int} {t : Nat} (hd : decode (mC M) i = .ok (.goto off, 3)) (h : (i : Int) + off = (t : Int)) : WP E d M i ls st σ Q = WP E d M t ls st σ Q := w_nx hd (by simp only [stpI, if_true, jp_eq h]; rfl)
theorem w_ifeq {off : Int} {t : Nat} {x : Int32} (hd : decode (mC M) i = .ok (.ifCond .eq off, 3)) (h : (i : Int) + off = (t : Int)) : WP E d M i ls (.int x :: st) σ Q = (if x = 0 then WP E d M t ls st σ Q else WP E d M (i + 3) ls st σ Q) := w_br hd (by simp only [stpI, doIf, if_true, br_eq h, cm0, decide_eq_true_eq])
theorem w_icmpeq {off : Int} {t : Nat} {x y : Int32} (hd : decode (mC M) i = .ok (.if_icmp .eq off, 3)) (h : (i : Int) + off = (t : Int)) : WP E d M i ls (.int y :: .int x :: st) σ Q = (if x = y then WP E d M t ls st σ Q else WP E d M (i + 3) ls st σ Q) := w_br hd (by simp only [stpI, doIf2, if_true, br_eq h, cm2, decide_eq_true_eq])
theorem w_ifne {off : Int} {t : Nat} {x : Int32} (hd : decode (mC M) i = .ok (.ifCond .ne off, 3)) (h : (i : Int) + off = (t : Int)) : WP E d M i ls (.int x :: st) σ Q = (if ¬ x = 0 then WP E d M t ls st σ Q else WP E d M (i + 3) ls st σ Q) := w_br hd (by simp only [stpI, doIf, if_true, br_eq h, cm0, decide_eq_true_eq])
theorem w_icmpne {off : Int} {t : Nat} {x y : Int32} (hd : decode (mC M) i = .ok (.if_icmp .ne off, 3)) (h : (i : Int) + off = (t : Int)) : WP E d M i ls (.int y :: .int x :: st) σ Q = (if ¬ x = y then WP E d M t ls st σ Q else WP E d M (i + 3) ls st σ Q) := w_br hd (by simp only [stpI, doIf2, if_true, br_eq h, cm2, decide_eq_true_eq])
theorem w_iflt {off : Int} {t : Nat} {x : Int32} (hd : decode (mC M) i = .ok (.ifCond .lt off, 3)) (h : (i : Int) + off = (t : Int)) : WP E d M i ls (.int x :: st) σ Q = (if x < 0 then WP E d M t ls st σ Q else WP E d M (i + 3) ls st σ Q) := w_br hd (by simp only [stpI, doIf, if_true, br_eq h, cm0, decide_eq_true_eq])
theorem w_icmplt {off : Int} {t : Nat} {x y : Int32} (hd : decode (mC M) i = .ok (.if_icmp .lt off, 3)) (h : (i : Int) + off = (t : Int)) : WP E d M i ls (.int y :: .int x :: st) σ Q = (if x < y then WP E d M t ls st σ Q else WP E d M (i + 3) ls st σ Q) := w_br hd (by simp only [stpI, doIf2, if_true, br_eq h, cm2, decide_eq_true_eq])
theorem w_ifge {off : Int} {t : Nat} {x : Int32} (hd : decode (mC M) i = .ok (.ifCond .ge off, 3)) (h : (i : Int) + off = (t : Int)) : WP E d M i ls (.int x :: st) σ Q = (if 0 ≤ x then WP E d M t ls st σ Q else WP E d M (i + 3) ls st σ Q) := w_br hd (by simp only [stpI, doIf, if_true, br_eq h, cm0, decide_eq_true_eq])
theorem w_icmpge {off : Int} {t : Nat} {x y : Int32} (hd : decode (mC M) i = .ok (.if_icmp .ge off, 3)) (h : (i : Int) + off = (t : Int)) : WP E d M i ls (.int y :: .int x :: st) σ Q = (if y ≤ x then WP E d M t ls st σ Q else WP E d M (i + 3) ls st σ Q) := w_br hd (by simp only [stpI, doIf2, if_true, br_eq h, cm2, decide_eq_true_eq])
theorem w_ifgt {off : Int} {t : Nat} {x : Int32} (hd : decode (mC M) i = .ok (.ifCond .gt off, 3)) (h : (i : Int) + off = (t : Int)) : WP E d M i ls (.int x :: st) σ Q = (if 0 < x then WP E d M t ls st σ Q else WP E d M (i + 3) ls st σ Q) := w_br hd (by simp only [stpI, doIf, if_true, br_eq h, cm0, decide_eq_true_eq])
theorem w_icmpgt {off : Int} {t : Nat} {x y : Int32} (hd : decode (mC M) i = .ok (.if_icmp .gt off, 3)) (h : (i : Int) + off = (t : Int)) : WP E d M i ls (.int y :: .int x :: st) σ Q = (if y < x then WP E d M t ls st σ Q else WP E d M (i + 3) ls st σ Q) := w_br hd (by simp only [stpI, doIf2, if_true, br_eq h, cm2, decide_eq_true_eq])
theorem w_ifle {off : Int} {t : Nat} {x : Int32} (hd : decode (mC M) i = .ok (.ifCond .le off, 3)) (h : (i : Int) + off = (t : Int)) : WP E d M i ls (.int x :: st) σ Q = (if x ≤ 0 then WP E d M t ls st σ Q else WP E d M (i + 3) ls st σ Q) := w_br hd (by simp only [stpI, doIf, if_true, br_eq h, cm0, decide_eq_true_eq])
theorem w_icmple {off : Int} {t : Nat} {x y : Int32} (hd : decode (mC M) i = .ok (.if_icmp .le off, 3)) (h : (i : Int) + off = (t : Int)) : WP E d M i ls (.int y :: .int x :: st) σ Q = (if x ≤ y then WP E d M t ls st σ Q else WP E d M (i + 3) ls st σ Q) := w_br hd (by simp only [stpI, doIf2, if_true, br_eq h, cm2, decide_eq_true_eq])
theorem w_ifnull {off : Int} {a : Nat} (hd : decode (mC M) i = .ok (.ifnull off, 3)) : WP E d M i ls (.ref a :: st) σ Q = WP E d M (i + 3) ls st σ Q := w_nx hd rfl
theorem w_dup {v : Value} (hd : decode (mC M) i = .ok (.dup, 1)) (h : v.category = 1) : WP E d M i ls (v :: st) σ Q = WP E d M (i + 1) ls (v :: v :: st) σ Q := w_nx hd (by simp only [stpI, doDup, if_true, h]; rfl)
theorem w_dup2 {v w : Value} (hd : decode (mC M) i = .ok (.dup2, 1)) (h : v.category = 1) (h2 : w.category = 1) : WP E d M i ls (v :: w :: st) σ Q = WP E d M (i + 1) ls (v :: w :: v :: w :: st) σ Q := w_nx hd (by simp only [stpI, doDup2, if_true, h, h2, and_self]; rfl)
theorem w_pop {v : Value} (hd : decode (mC M) i = .ok (.pop, 1)) (h : v.category = 1) : WP E d M i ls (v :: st) σ Q = WP E d M (i + 1) ls st σ Q := w_nx hd (by simp only [stpI, doPop, if_true, h]; rfl)
theorem w_len {a n : Nat} (hd : decode (mC M) i = .ok (.arraylength, 1)) (h : aLen E a = some n) : WP E d M i ls (.ref a :: st) σ Q = WP E d M (i + 1) ls (.int (nI n) :: st) σ Q := w_nx hd (by simp only [stpI, doLen, if_true, h]; rfl)
theorem w_out {ins : Instr} {len i' n : Nat} {j : Int32} {ls' st' : List Value} {σ' : mSt} (hd : decode (mC M) i = .ok (ins, len)) (h : stpI E M ins len i ls st σ = (if mOut j n = true then none else nx i' ls' st' σ')) : WP E d M i ls st σ Q = (if mOut j n = true then False else WP E d M i' ls' st' σ' Q) := by
  by_cases hc : mOut j n = true
  · rw [if_pos hc]; rw [if_pos hc] at h; exact w_no hd h
  · rw [if_neg hc]; rw [if_neg hc] at h; exact w_nx hd h
theorem w_iald {a n : Nat} {j : Int32} {fl : List Nat} (hd : decode (mC M) i = .ok (.iaload, 1)) (h : mS0[a]? = some (0, n, fl)) (ha : a < 1000) : WP E d M i ls (.int j :: .ref a :: st) σ Q = (if mOut j n = true then False else WP E d M (i + 1) ls (.int (σ.1 a j.toNatClampNeg) :: st) σ Q) := w_out hd (by simp only [stpI, doAld, iRow, if_true, h, show ¬ a = 1000 by omega, show ¬ a = 1001 by omega, if_false])
theorem w_iald0 {j : Int32} (hd : decode (mC M) i = .ok (.iaload, 1)) : WP E d M i ls (.int j :: .ref 1000 :: st) σ Q = (if mOut j E.1 = true then False else WP E d M (i + 1) ls (.int (E.2 j.toNatClampNeg) :: st) σ Q) := w_out hd (by simp only [stpI, doAld, iRow, if_true])
theorem w_iald1 {j : Int32} (hd : decode (mC M) i = .ok (.iaload, 1)) : WP E d M i ls (.int j :: .ref 1001 :: st) σ Q = (if mOut j 4 = true then False else WP E d M (i + 1) ls (.int (mStarts j.toNatClampNeg) :: st) σ Q) := w_out hd (by simp [stpI, doAld, iRow])
theorem w_iast {a n : Nat} {j x : Int32} {fl : List Nat} (hd : decode (mC M) i = .ok (.iastore, 1)) (h : mS0[a]? = some (0, n, fl)) : WP E d M i ls (.int x :: .int j :: .ref a :: st) σ Q = (if mOut j n = true then False else WP E d M (i + 1) ls st (sI σ a j.toNatClampNeg x) Q) := w_out hd (by simp only [stpI, doAst, if_true, h])
theorem w_bald {a n : Nat} {j : Int32} {fl : List Nat} (hd : decode (mC M) i = .ok (.baload, 1)) (h : mS0[a]? = some (1, n, fl)) : WP E d M i ls (.int j :: .ref a :: st) σ Q = (if mOut j n = true then False else WP E d M (i + 1) ls (.int (σ.1 a j.toNatClampNeg) :: st) σ Q) := w_out hd (by simp only [stpI, doBld, if_true, h])
theorem w_zald {a n : Nat} {j : Int32} {fl : List Nat} (hd : decode (mC M) i = .ok (.baload, 1)) (h : mS0[a]? = some (2, n, fl)) : WP E d M i ls (.int j :: .ref a :: st) σ Q = (if mOut j n = true then False else WP E d M (i + 1) ls (.int (σ.1 a j.toNatClampNeg) :: st) σ Q) := w_out hd (by simp only [stpI, doBld, if_true, h])
theorem w_bast {a n : Nat} {j x : Int32} {fl : List Nat} (hd : decode (mC M) i = .ok (.bastore, 1)) (h : mS0[a]? = some (1, n, fl)) : WP E d M i ls (.int x :: .int j :: .ref a :: st) σ Q = (if mOut j n = true then False else WP E d M (i + 1) ls st (sI σ a j.toNatClampNeg (vp_nar .byte x)) Q) := w_out hd (by simp only [stpI, doBst, if_true, h])
theorem w_zast {a n : Nat} {j x : Int32} {fl : List Nat} (hd : decode (mC M) i = .ok (.bastore, 1)) (h : mS0[a]? = some (2, n, fl)) : WP E d M i ls (.int x :: .int j :: .ref a :: st) σ Q = (if mOut j n = true then False else WP E d M (i + 1) ls st (sI σ a j.toNatClampNeg (vp_nar .boolean x)) Q) := w_out hd (by simp only [stpI, doBst, if_true, h])
theorem w_lald {a n : Nat} {j : Int32} {fl : List Nat} (hd : decode (mC M) i = .ok (.laload, 1)) (h : mS0[a]? = some (3, n, fl)) : WP E d M i ls (.int j :: .ref a :: st) σ Q = (if mOut j n = true then False else WP E d M (i + 1) ls (.long (σ.2 a j.toNatClampNeg) :: st) σ Q) := w_out hd (by simp only [stpI, doLld, if_true, h])
theorem w_last {a n : Nat} {j : Int32} {x : Int64} {fl : List Nat} (hd : decode (mC M) i = .ok (.lastore, 1)) (h : mS0[a]? = some (3, n, fl)) : WP E d M i ls (.long x :: .int j :: .ref a :: st) σ Q = (if mOut j n = true then False else WP E d M (i + 1) ls st (sL σ a j.toNatClampNeg x) Q) := w_out hd (by simp only [stpI, doLst, if_true, h])
theorem w_geti {idx a ci k : Nat} {fl : List Nat} (hd : decode (mC M) i = .ok (.getfield idx, 3)) (hz : mRz (mK M) idx = some (.inl (ci, k))) (h : mS0[a]? = some (5, ci, fl)) (hk : fl[k]? = some 0) : WP E d M i ls (.ref a :: st) σ Q = WP E d M (i + 3) ls (.int (σ.1 a k) :: st) σ Q := w_nx hd (by simp only [stpI, doGet, if_true, hz, h, hk]; rfl)
theorem w_getl {idx a ci k : Nat} {fl : List Nat} (hd : decode (mC M) i = .ok (.getfield idx, 3)) (hz : mRz (mK M) idx = some (.inl (ci, k))) (h : mS0[a]? = some (5, ci, fl)) (hk : fl[k]? = some 1) : WP E d M i ls (.ref a :: st) σ Q = WP E d M (i + 3) ls (.long (σ.2 a k) :: st) σ Q := w_nx hd (by simp only [stpI, doGet, if_true, hz, h, hk]; rfl)
theorem w_getr {idx a ci k r : Nat} {fl : List Nat} (hd : decode (mC M) i = .ok (.getfield idx, 3)) (hz : mRz (mK M) idx = some (.inl (ci, k))) (h : mS0[a]? = some (5, ci, fl)) (hk : fl[k]? = some (r + 2)) : WP E d M i ls (.ref a :: st) σ Q = WP E d M (i + 3) ls (.ref r :: st) σ Q := w_nx hd (by simp only [stpI, doGet, if_true, hz, h, hk]; rfl)
theorem w_puti {idx a ci k : Nat} {v : Int32} {fl : List Nat} (hd : decode (mC M) i = .ok (.putfield idx, 3)) (hz : mRz (mK M) idx = some (.inl (ci, k))) (h : mS0[a]? = some (5, ci, fl)) (hk : fl[k]? = some 0) (hf : mFin ci k = false) (ht : mTyF ci k = .int) : WP E d M i ls (.int v :: .ref a :: st) σ Q = WP E d M (i + 3) ls st (sI σ a k v) Q := w_nx hd (by simp only [stpI, doPut, if_true, hz, h, hk, hf, ht, and_self]; rfl)
theorem w_putz {idx a ci k : Nat} {v : Int32} {fl : List Nat} (hd : decode (mC M) i = .ok (.putfield idx, 3)) (hz : mRz (mK M) idx = some (.inl (ci, k))) (h : mS0[a]? = some (5, ci, fl)) (hk : fl[k]? = some 0) (hf : mFin ci k = false) (ht : mTyF ci k = .boolean) (hv : v = 0 ∨ v = 1) : WP E d M i ls (.int v :: .ref a :: st) σ Q = WP E d M (i + 3) ls st (sI σ a k v) Q := w_nx hd (by
  have e : ¬ (FieldType.boolean = FieldType.int) := by decide
  simp only [stpI, doPut, if_true, hz, h, hk, hf, ht, and_self, hv, e, if_false]; rfl)
theorem w_putl {idx a ci k : Nat} {v : Int64} {fl : List Nat} (hd : decode (mC M) i = .ok (.putfield idx, 3)) (hz : mRz (mK M) idx = some (.inl (ci, k))) (h : mS0[a]? = some (5, ci, fl)) (hk : fl[k]? = some 1) (hf : mFin ci k = false) (ht : mTyF ci k = .long) : WP E d M i ls (.long v :: .ref a :: st) σ Q = WP E d M (i + 3) ls st (sL σ a k v) Q := w_nx hd (by simp only [stpI, doPut, if_true, hz, h, hk, hf, ht, and_self]; rfl)
theorem w_starts {idx : Nat} (hd : decode (mC M) i = .ok (.getstatic idx, 3)) (hz : mRz (mK M) idx = some (.inr (.inr (.inr (.inr 1))))) : WP E d M i ls st σ Q = WP E d M (i + 3) ls (.ref 1001 :: st) σ Q := w_nx hd (by simp only [stpI, doGets, if_true, hz]; rfl)
theorem w_max {idx : Nat} {x y : Int32} (hd : decode (mC M) i = .ok (.invokestatic idx, 3)) (hz : mRz (mK M) idx = some (.inr (.inr (.inr (.inr 2))))) (hc : cats st ≤ 8) : WP E d M i ls (.int y :: .int x :: st) σ Q = WP E d M (i + 3) ls (.int (if x < y then y else x) :: st) σ Q := w_nx hd (by simp only [stpI, doStat, if_true, hz, hc]; rfl)
theorem w_min {idx : Nat} {x y : Int32} (hd : decode (mC M) i = .ok (.invokestatic idx, 3)) (hz : mRz (mK M) idx = some (.inr (.inr (.inr (.inr 3))))) (hc : cats st ≤ 8) : WP E d M i ls (.int y :: .int x :: st) σ Q = WP E d M (i + 3) ls (.int (if y < x then y else x) :: st) σ Q := w_nx hd (by simp only [stpI, doStat, if_true, hz, hc]; rfl)
theorem w_maxl {idx : Nat} {x y : Int64} (hd : decode (mC M) i = .ok (.invokestatic idx, 3)) (hz : mRz (mK M) idx = some (.inr (.inr (.inr (.inr 4))))) (hc : cats st ≤ 8) : WP E d M i ls (.long y :: .long x :: st) σ Q = WP E d M (i + 3) ls (.long (if y < x then x else y) :: st) σ Q := w_nx hd (by simp only [stpI, doStat, if_true, hz, hc]; rfl)
theorem w_absl {idx : Nat} {x : Int64} (hd : decode (mC M) i = .ok (.invokestatic idx, 3)) (hz : mRz (mK M) idx = some (.inr (.inr (.inr (.inr 5))))) (hc : cats st ≤ 8) : WP E d M i ls (.long x :: st) σ Q = WP E d M (i + 3) ls (.long (if 0 < x then x else -x) :: st) σ Q := w_nx hd (by simp only [stpI, doStat, if_true, hz, hc]; rfl)
theorem w_call {ins : Instr} {len i' : Nat} {M' : mM} {vs ls' st' : List Value} (hd : decode (mC M) i = .ok (ins, len)) (h : stpI E M ins len i ls st σ = some (.inr (.inl (M', vs, i', ls', st')))) : WP E (d + 1) M i ls st σ Q = WP E d M' 0 (ent (mL M') vs) [] σ (fun r σ' => WP E (d + 1) M i' ls' (r.toList ++ st') σ' Q) := by
  rw [WP_eq]
  unfold stp
  rw [hd]
  dsimp only
  rw [h]
  rfl
theorem w_stat {idx n : Nat} {M' : mM} {vs st' es : List Value} (hd : decode (mC M) i = .ok (.invokestatic idx, 3)) (hz : mRz (mK M) idx = some (.inr (.inl (true, M', n)))) (h1 : (st.take n).length = n) (h2 : (st.take n).reverse = vs) (h3 : st.drop n = st') (h4 : (xpd vs).length ≤ mL M') (h5 : cats st' ≤ 8) (h6 : ent (mL M') vs = es) : WP E (d + 1) M i ls st σ Q = WP E d M' 0 es [] σ (fun r σ' => WP E (d + 1) M (i + 3) ls (r.toList ++ st') σ' Q) := by
  subst h6
  exact w_call hd (by simp only [stpI, doStat, if_true, hz, h1, h2, h3, doCall, h4, h5, and_self])
theorem w_virt {idx n b ci : Nat} {M' : mM} {vs st' es : List Value} {fl : List Nat} (hd : decode (mC M) i = .ok (.invokevirtual idx, 3)) (hz : mRz (mK M) idx = some (.inr (.inl (false, M', n)))) (h3 : st.drop n = .ref b :: st') (h : mS0[b]? = some (5, ci, fl)) (hc : ci = mK M') (h1 : (st.take n).length = n) (h2 : (st.take n).reverse = vs) (h4 : (xpd (.ref b :: vs)).length ≤ mL M') (h5 : cats st' ≤ 8) (h6 : ent (mL M') (.ref b :: vs) = es) : WP E (d + 1) M i ls st σ Q = WP E d M' 0 es [] σ (fun r σ' => WP E (d + 1) M (i + 3) ls (r.toList ++ st') σ' Q) := by
  subst h6
  exact w_call hd (by simp only [stpI, doVirt, if_true, hz, h3, h, hc, h1, h2, doCall, h4, h5, and_self])
theorem w_iret {v : Int32} (hd : decode (mC M) i = .ok (.ireturn, 1)) (h : mR M = some .int) : WP E d M i ls [.int v] σ Q = Q (some (.int v)) σ := by
  rw [WP_eq]
  unfold stp
  rw [hd]
  simp only [stpI, doRet, if_true, h]
  rfl
theorem w_zret {v : Int32} (hd : decode (mC M) i = .ok (.ireturn, 1)) (h : mR M = some .boolean) (hv : v = 0 ∨ v = 1) : WP E d M i ls [.int v] σ Q = Q (some (.int v)) σ := by
  rw [WP_eq]
  unfold stp
  rw [hd]
  have e : ¬ (some FieldType.boolean = some FieldType.int) := by decide
  simp only [stpI, doRet, if_true, h, e, if_false, hv, and_self]
  rfl
theorem w_lret {v : Int64} (hd : decode (mC M) i = .ok (.lreturn, 1)) (h : mR M = some .long) : WP E d M i ls [.long v] σ Q = Q (some (.long v)) σ := by
  rw [WP_eq]
  unfold stp
  rw [hd]
  simp only [stpI, doRetJ, if_true, h]
  rfl
theorem w_vret (hd : decode (mC M) i = .ok (.return_, 1)) (h : mR M = none) : WP E d M i ls [] σ Q = Q none σ := by
  rw [WP_eq]
  unfold stp
  rw [hd]
  simp only [stpI, doRetV, if_true, h]
  rfl
end RULES
end
section
theorem sh_0 : mS0[0]? = some (5, 10, [3, 7, 12, 37, 62, 63, 70, 75, 84, 0, 0, 1, 1, 0, 0, 0]) := rfl
theorem sh_1 : mS0[1]? = some (5, 9, [4, 5, 6]) := rfl
theorem sh_2 : mS0[2]? = some (3, 240, []) := rfl
theorem sh_3 : mS0[3]? = some (0, 4, []) := rfl
theorem sh_4 : mS0[4]? = some (0, 4, []) := rfl
theorem sh_5 : mS0[5]? = some (5, 6, [8, 11]) := rfl
theorem sh_6 : mS0[6]? = some (5, 7, [9, 10, 0, 0, 0, 0, 0, 0, 1, 0, 0]) := rfl
theorem sh_7 : mS0[7]? = some (1, 900, []) := rfl
theorem sh_8 : mS0[8]? = some (3, 28, []) := rfl
theorem sh_9 : mS0[9]? = some (0, 5, []) := rfl
theorem sh_10 : mS0[10]? = some (5, 8, [13, 15, 24, 27, 28, 29, 30, 31, 32, 33, 34, 35, 36, 0, 0, 0, 0, 0, 0]) := rfl
theorem sh_11 : mS0[11]? = some (5, 2, [14]) := rfl
theorem sh_12 : mS0[12]? = some (3, 20, []) := rfl
theorem sh_13 : mS0[13]? = some (5, 4, [16, 17, 18, 19, 20, 21, 22, 23, 0]) := rfl
theorem sh_14 : mS0[14]? = some (0, 40, []) := rfl
theorem sh_15 : mS0[15]? = some (0, 40, []) := rfl
theorem sh_16 : mS0[16]? = some (0, 40, []) := rfl
theorem sh_17 : mS0[17]? = some (0, 40, []) := rfl
theorem sh_18 : mS0[18]? = some (0, 40, []) := rfl
theorem sh_19 : mS0[19]? = some (2, 40, []) := rfl
theorem sh_20 : mS0[20]? = some (0, 40, []) := rfl
theorem sh_21 : mS0[21]? = some (0, 8, []) := rfl
theorem sh_22 : mS0[22]? = some (5, 0, [25, 26, 0, 0, 0, 0]) := rfl
theorem sh_23 : mS0[23]? = some (0, 420, []) := rfl
theorem sh_24 : mS0[24]? = some (0, 3, []) := rfl
theorem sh_25 : mS0[25]? = some (0, 8, []) := rfl
theorem sh_26 : mS0[26]? = some (0, 8, []) := rfl
theorem sh_27 : mS0[27]? = some (0, 8, []) := rfl
theorem sh_28 : mS0[28]? = some (0, 4, []) := rfl
theorem sh_29 : mS0[29]? = some (0, 8, []) := rfl
theorem sh_30 : mS0[30]? = some (0, 8, []) := rfl
theorem sh_31 : mS0[31]? = some (0, 8, []) := rfl
theorem sh_32 : mS0[32]? = some (0, 8, []) := rfl
theorem sh_33 : mS0[33]? = some (0, 8, []) := rfl
theorem sh_34 : mS0[34]? = some (0, 8, []) := rfl
theorem sh_35 : mS0[35]? = some (5, 8, [38, 40, 49, 52, 53, 54, 55, 56, 57, 58, 59, 60, 61, 0, 0, 0, 0, 0, 0]) := rfl
theorem sh_36 : mS0[36]? = some (5, 2, [39]) := rfl
theorem sh_37 : mS0[37]? = some (3, 20, []) := rfl
theorem sh_38 : mS0[38]? = some (5, 4, [41, 42, 43, 44, 45, 46, 47, 48, 0]) := rfl
theorem sh_39 : mS0[39]? = some (0, 40, []) := rfl
theorem sh_40 : mS0[40]? = some (0, 40, []) := rfl
theorem sh_41 : mS0[41]? = some (0, 40, []) := rfl
theorem sh_42 : mS0[42]? = some (0, 40, []) := rfl
theorem sh_43 : mS0[43]? = some (0, 40, []) := rfl
theorem sh_44 : mS0[44]? = some (2, 40, []) := rfl
theorem sh_45 : mS0[45]? = some (0, 40, []) := rfl
theorem sh_46 : mS0[46]? = some (0, 8, []) := rfl
theorem sh_47 : mS0[47]? = some (5, 0, [50, 51, 0, 0, 0, 0]) := rfl
theorem sh_48 : mS0[48]? = some (0, 420, []) := rfl
theorem sh_49 : mS0[49]? = some (0, 3, []) := rfl
theorem sh_50 : mS0[50]? = some (0, 8, []) := rfl
theorem sh_51 : mS0[51]? = some (0, 8, []) := rfl
theorem sh_52 : mS0[52]? = some (0, 8, []) := rfl
theorem sh_53 : mS0[53]? = some (0, 4, []) := rfl
theorem sh_54 : mS0[54]? = some (0, 8, []) := rfl
theorem sh_55 : mS0[55]? = some (0, 8, []) := rfl
theorem sh_56 : mS0[56]? = some (0, 8, []) := rfl
theorem sh_57 : mS0[57]? = some (0, 8, []) := rfl
theorem sh_58 : mS0[58]? = some (0, 8, []) := rfl
theorem sh_59 : mS0[59]? = some (0, 8, []) := rfl
theorem sh_60 : mS0[60]? = some (4, 3, [91, 116, 141]) := rfl
theorem sh_61 : mS0[61]? = some (5, 5, [64, 65, 66, 67, 68, 69, 0]) := rfl
theorem sh_62 : mS0[62]? = some (0, 8, []) := rfl
theorem sh_63 : mS0[63]? = some (0, 8, []) := rfl
theorem sh_64 : mS0[64]? = some (0, 8, []) := rfl
theorem sh_65 : mS0[65]? = some (0, 8, []) := rfl
theorem sh_66 : mS0[66]? = some (0, 8, []) := rfl
theorem sh_67 : mS0[67]? = some (0, 8, []) := rfl
theorem sh_68 : mS0[68]? = some (5, 3, [71, 72, 73, 74, 0]) := rfl
theorem sh_69 : mS0[69]? = some (0, 256, []) := rfl
theorem sh_70 : mS0[70]? = some (0, 256, []) := rfl
theorem sh_71 : mS0[71]? = some (0, 64, []) := rfl
theorem sh_72 : mS0[72]? = some (0, 8, []) := rfl
theorem sh_73 : mS0[73]? = some (5, 1, [76, 83, 0, 0, 0, 0, 0, 0, 0]) := rfl
theorem sh_74 : mS0[74]? = some (5, 5, [77, 78, 79, 80, 81, 82, 0]) := rfl
theorem sh_75 : mS0[75]? = some (0, 8, []) := rfl
theorem sh_76 : mS0[76]? = some (0, 8, []) := rfl
theorem sh_77 : mS0[77]? = some (0, 8, []) := rfl
theorem sh_78 : mS0[78]? = some (0, 8, []) := rfl
theorem sh_79 : mS0[79]? = some (0, 8, []) := rfl
theorem sh_80 : mS0[80]? = some (0, 8, []) := rfl
theorem sh_81 : mS0[81]? = some (0, 60, []) := rfl
theorem sh_82 : mS0[82]? = some (5, 1, [85, 92, 0, 0, 0, 0, 0, 0, 0]) := rfl
theorem sh_83 : mS0[83]? = some (5, 5, [86, 87, 88, 89, 90, 91, 0]) := rfl
theorem sh_84 : mS0[84]? = some (0, 8, []) := rfl
theorem sh_85 : mS0[85]? = some (0, 8, []) := rfl
theorem sh_86 : mS0[86]? = some (0, 8, []) := rfl
theorem sh_87 : mS0[87]? = some (0, 8, []) := rfl
theorem sh_88 : mS0[88]? = some (0, 8, []) := rfl
theorem sh_89 : mS0[89]? = some (0, 8, []) := rfl
theorem sh_90 : mS0[90]? = some (0, 60, []) := rfl
theorem sh_91 : mS0[91]? = some (5, 8, [94, 96, 105, 108, 109, 110, 111, 112, 113, 114, 115, 116, 117, 0, 0, 0, 0, 0, 0]) := rfl
theorem sh_92 : mS0[92]? = some (5, 2, [95]) := rfl
theorem sh_93 : mS0[93]? = some (3, 20, []) := rfl
theorem sh_94 : mS0[94]? = some (5, 4, [97, 98, 99, 100, 101, 102, 103, 104, 0]) := rfl
theorem sh_95 : mS0[95]? = some (0, 40, []) := rfl
theorem sh_96 : mS0[96]? = some (0, 40, []) := rfl
theorem sh_97 : mS0[97]? = some (0, 40, []) := rfl
theorem sh_98 : mS0[98]? = some (0, 40, []) := rfl
theorem sh_99 : mS0[99]? = some (0, 40, []) := rfl
theorem sh_100 : mS0[100]? = some (2, 40, []) := rfl
theorem sh_101 : mS0[101]? = some (0, 40, []) := rfl
theorem sh_102 : mS0[102]? = some (0, 8, []) := rfl
theorem sh_103 : mS0[103]? = some (5, 0, [106, 107, 0, 0, 0, 0]) := rfl
theorem sh_104 : mS0[104]? = some (0, 420, []) := rfl
theorem sh_105 : mS0[105]? = some (0, 3, []) := rfl
theorem sh_106 : mS0[106]? = some (0, 8, []) := rfl
theorem sh_107 : mS0[107]? = some (0, 8, []) := rfl
theorem sh_108 : mS0[108]? = some (0, 8, []) := rfl
theorem sh_109 : mS0[109]? = some (0, 4, []) := rfl
theorem sh_110 : mS0[110]? = some (0, 8, []) := rfl
theorem sh_111 : mS0[111]? = some (0, 8, []) := rfl
theorem sh_112 : mS0[112]? = some (0, 8, []) := rfl
theorem sh_113 : mS0[113]? = some (0, 8, []) := rfl
theorem sh_114 : mS0[114]? = some (0, 8, []) := rfl
theorem sh_115 : mS0[115]? = some (0, 8, []) := rfl
theorem sh_116 : mS0[116]? = some (5, 8, [119, 121, 130, 133, 134, 135, 136, 137, 138, 139, 140, 141, 142, 0, 0, 0, 0, 0, 0]) := rfl
theorem sh_117 : mS0[117]? = some (5, 2, [120]) := rfl
theorem sh_118 : mS0[118]? = some (3, 20, []) := rfl
theorem sh_119 : mS0[119]? = some (5, 4, [122, 123, 124, 125, 126, 127, 128, 129, 0]) := rfl
theorem sh_120 : mS0[120]? = some (0, 40, []) := rfl
theorem sh_121 : mS0[121]? = some (0, 40, []) := rfl
theorem sh_122 : mS0[122]? = some (0, 40, []) := rfl
theorem sh_123 : mS0[123]? = some (0, 40, []) := rfl
theorem sh_124 : mS0[124]? = some (0, 40, []) := rfl
theorem sh_125 : mS0[125]? = some (2, 40, []) := rfl
theorem sh_126 : mS0[126]? = some (0, 40, []) := rfl
theorem sh_127 : mS0[127]? = some (0, 8, []) := rfl
theorem sh_128 : mS0[128]? = some (5, 0, [131, 132, 0, 0, 0, 0]) := rfl
theorem sh_129 : mS0[129]? = some (0, 420, []) := rfl
theorem sh_130 : mS0[130]? = some (0, 3, []) := rfl
theorem sh_131 : mS0[131]? = some (0, 8, []) := rfl
theorem sh_132 : mS0[132]? = some (0, 8, []) := rfl
theorem sh_133 : mS0[133]? = some (0, 8, []) := rfl
theorem sh_134 : mS0[134]? = some (0, 4, []) := rfl
theorem sh_135 : mS0[135]? = some (0, 8, []) := rfl
theorem sh_136 : mS0[136]? = some (0, 8, []) := rfl
theorem sh_137 : mS0[137]? = some (0, 8, []) := rfl
theorem sh_138 : mS0[138]? = some (0, 8, []) := rfl
theorem sh_139 : mS0[139]? = some (0, 8, []) := rfl
theorem sh_140 : mS0[140]? = some (0, 8, []) := rfl
theorem sh_141 : mS0[141]? = some (5, 8, [144, 146, 155, 158, 159, 160, 161, 162, 163, 164, 165, 166, 167, 0, 0, 0, 0, 0, 0]) := rfl
theorem sh_142 : mS0[142]? = some (5, 2, [145]) := rfl
theorem sh_143 : mS0[143]? = some (3, 20, []) := rfl
theorem sh_144 : mS0[144]? = some (5, 4, [147, 148, 149, 150, 151, 152, 153, 154, 0]) := rfl
theorem sh_145 : mS0[145]? = some (0, 40, []) := rfl
theorem sh_146 : mS0[146]? = some (0, 40, []) := rfl
theorem sh_147 : mS0[147]? = some (0, 40, []) := rfl
theorem sh_148 : mS0[148]? = some (0, 40, []) := rfl
theorem sh_149 : mS0[149]? = some (0, 40, []) := rfl
theorem sh_150 : mS0[150]? = some (2, 40, []) := rfl
theorem sh_151 : mS0[151]? = some (0, 40, []) := rfl
theorem sh_152 : mS0[152]? = some (0, 8, []) := rfl
theorem sh_153 : mS0[153]? = some (5, 0, [156, 157, 0, 0, 0, 0]) := rfl
theorem sh_154 : mS0[154]? = some (0, 420, []) := rfl
theorem sh_155 : mS0[155]? = some (0, 3, []) := rfl
theorem sh_156 : mS0[156]? = some (0, 8, []) := rfl
theorem sh_157 : mS0[157]? = some (0, 8, []) := rfl
theorem sh_158 : mS0[158]? = some (0, 8, []) := rfl
theorem sh_159 : mS0[159]? = some (0, 4, []) := rfl
theorem sh_160 : mS0[160]? = some (0, 8, []) := rfl
theorem sh_161 : mS0[161]? = some (0, 8, []) := rfl
theorem sh_162 : mS0[162]? = some (0, 8, []) := rfl
theorem sh_163 : mS0[163]? = some (0, 8, []) := rfl
theorem sh_164 : mS0[164]? = some (0, 8, []) := rfl
theorem sh_165 : mS0[165]? = some (0, 8, []) := rfl
theorem sh_166 : mS0[166]? = some (5, 11, [0, 0, 1, 1, 169, 170, 171, 172, 0, 0, 0, 0, 0, 0, 0, 0, 0, 0, 0, 1, 173, 174, 175, 0, 0, 176, 177, 178, 0, 179, 180, 181, 182, 0, 183, 184, 185, 0, 0, 0, 0, 0, 0, 0, 0, 0]) := rfl
theorem sh_167 : mS0[167]? = some (0, 4, []) := rfl
theorem sh_168 : mS0[168]? = some (0, 4, []) := rfl
theorem sh_169 : mS0[169]? = some (3, 240, []) := rfl
theorem sh_170 : mS0[170]? = some (1, 900, []) := rfl
theorem sh_171 : mS0[171]? = some (0, 3000, []) := rfl
theorem sh_172 : mS0[172]? = some (0, 322, []) := rfl
theorem sh_173 : mS0[173]? = some (3, 100, []) := rfl
theorem sh_174 : mS0[174]? = some (0, 40, []) := rfl
theorem sh_175 : mS0[175]? = some (0, 8, []) := rfl
theorem sh_176 : mS0[176]? = some (0, 8, []) := rfl
theorem sh_177 : mS0[177]? = some (0, 256, []) := rfl
theorem sh_178 : mS0[178]? = some (0, 256, []) := rfl
theorem sh_179 : mS0[179]? = some (0, 8, []) := rfl
theorem sh_180 : mS0[180]? = some (0, 8, []) := rfl
theorem sh_181 : mS0[181]? = some (0, 42, []) := rfl
theorem sh_182 : mS0[182]? = some (0, 42, []) := rfl
theorem sh_183 : mS0[183]? = some (0, 5, []) := rfl
theorem rz0_11 : mRz 0 11 = some (.inl (0, 0)) := rfl
theorem rz0_15 : mRz 0 15 = some (.inl (0, 1)) := rfl
theorem rz0_18 : mRz 0 18 = some (.inl (0, 2)) := rfl
theorem rz0_22 : mRz 0 22 = some (.inl (0, 3)) := rfl
theorem rz0_25 : mRz 0 25 = some (.inl (0, 4)) := rfl
theorem rz0_28 : mRz 0 28 = some (.inl (0, 5)) := rfl
theorem rz0_32 : mRz 0 32 = some (.inr (.inr (.inr (.inr 0)))) := rfl
theorem rz0_40 : mRz 0 40 = some (.inr (.inl (false, mDa_add, 2))) := rfl
theorem rz1_12 : mRz 1 12 = some (.inl (1, 0)) := rfl
theorem rz1_20 : mRz 1 20 = some (.inl (1, 1)) := rfl
theorem rz1_24 : mRz 1 24 = some (.inl (1, 2)) := rfl
theorem rz1_28 : mRz 1 28 = some (.inl (1, 3)) := rfl
theorem rz1_31 : mRz 1 31 = some (.inl (1, 4)) := rfl
theorem rz1_34 : mRz 1 34 = some (.inl (1, 5)) := rfl
theorem rz1_37 : mRz 1 37 = some (.inl (1, 6)) := rfl
theorem rz1_40 : mRz 1 40 = some (.inl (1, 7)) := rfl
theorem rz1_43 : mRz 1 43 = some (.inl (1, 8)) := rfl
theorem rz1_47 : mRz 1 47 = some (.inr (.inr (.inl (1000000)))) := rfl
theorem rz1_48 : mRz 1 48 = some (.inl (8, 2)) := rfl
theorem rz1_54 : mRz 1 54 = some (.inl (0, 3)) := rfl
theorem rz1_57 : mRz 1 57 = some (.inr (.inl (false, mLi_goOn, 2))) := rfl
theorem rz1_61 : mRz 1 61 = some (.inr (.inl (false, mDa_cell, 2))) := rfl
theorem rz1_67 : mRz 1 67 = some (.inr (.inl (false, mLi_behindEnd, 2))) := rfl
theorem rz1_71 : mRz 1 71 = some (.inr (.inl (true, mLi_isTrue, 2))) := rfl
theorem rz1_75 : mRz 1 75 = some (.inr (.inl (false, mLi_isDone, 3))) := rfl
theorem rz1_79 : mRz 1 79 = some (.inl (8, 16)) := rfl
theorem rz1_82 : mRz 1 82 = some (.inr (.inl (true, mLi_compares, 3))) := rfl
theorem rz1_86 : mRz 1 86 = some (.inr (.inl (false, mTw_hasPerson, 1))) := rfl
theorem rz1_90 : mRz 1 90 = some (.inl (8, 4)) := rfl
theorem rz1_93 : mRz 1 93 = some (.inr (.inl (false, mTw_isBaked, 1))) := rfl
theorem rz1_96 : mRz 1 96 = some (.inr (.inl (false, mTw_isWet, 1))) := rfl
theorem rz1_99 : mRz 1 99 = some (.inr (.inl (false, mTw_handOn, 5))) := rfl
theorem rz1_103 : mRz 1 103 = some (.inr (.inl (false, mTw_release, 1))) := rfl
theorem rz1_106 : mRz 1 106 = some (.inr (.inl (false, mLi_hasBaked, 2))) := rfl
theorem rz1_109 : mRz 1 109 = some (.inr (.inl (false, mLi_hasWaited, 2))) := rfl
theorem rz1_112 : mRz 1 112 = some (.inr (.inl (false, mTw_feast, 2))) := rfl
theorem rz1_115 : mRz 1 115 = some (.inr (.inl (false, mTw_handMoney, 3))) := rfl
theorem rz1_118 : mRz 1 118 = some (.inr (.inl (false, mTw_canBake, 1))) := rfl
theorem rz1_121 : mRz 1 121 = some (.inr (.inl (false, mTw_rainsOn, 1))) := rfl
theorem rz1_124 : mRz 1 124 = some (.inr (.inl (false, mSh_settle, 3))) := rfl
theorem rz1_128 : mRz 1 128 = some (.inr (.inl (false, mTw_bringOut, 2))) := rfl
theorem rz1_132 : mRz 1 132 = some (.inl (8, 18)) := rfl
theorem rz1_135 : mRz 1 135 = some (.inl (8, 14)) := rfl
theorem rz1_138 : mRz 1 138 = some (.inr (.inl (false, mLi_nextDraw, 0))) := rfl
theorem rz1_142 : mRz 1 142 = some (.inl (8, 6)) := rfl
theorem rz1_145 : mRz 1 145 = some (.inr (.inr (.inl (65536)))) := rfl
theorem rz2_9 : mRz 2 9 = some (.inl (2, 0)) := rfl
theorem rz2_15 : mRz 2 15 = some (.inr (.inl (true, mAr_filll, 2))) := rfl
theorem rz2_21 : mRz 2 21 = some (.inr (.inr (.inr (.inr 0)))) := rfl
theorem rz2_27 : mRz 2 27 = some (.inr (.inr (.inr (.inr 1)))) := rfl
theorem rz3_11 : mRz 3 11 = some (.inl (3, 0)) := rfl
theorem rz3_15 : mRz 3 15 = some (.inl (3, 1)) := rfl
theorem rz3_18 : mRz 3 18 = some (.inl (3, 2)) := rfl
theorem rz3_21 : mRz 3 21 = some (.inl (3, 3)) := rfl
theorem rz3_24 : mRz 3 24 = some (.inl (8, 13)) := rfl
theorem rz3_30 : mRz 3 30 = some (.inl (8, 1)) := rfl
theorem rz3_34 : mRz 3 34 = some (.inr (.inl (false, mPr_surplus, 1))) := rfl
theorem rz3_40 : mRz 3 40 = some (.inr (.inr (.inr (.inr 2)))) := rfl
theorem rz3_46 : mRz 3 46 = some (.inr (.inl (false, mNe_measure, 1))) := rfl
theorem rz3_50 : mRz 3 50 = some (.inl (4, 8)) := rfl
theorem rz3_53 : mRz 3 53 = some (.inr (.inl (false, mPr_stands, 1))) := rfl
theorem rz3_57 : mRz 3 57 = some (.inl (4, 3)) := rfl
theorem rz3_60 : mRz 3 60 = some (.inl (4, 2)) := rfl
theorem rz3_63 : mRz 3 63 = some (.inr (.inl (false, mNe_way, 2))) := rfl
theorem rz3_66 : mRz 3 66 = some (.inr (.inl (false, mNe_nextOnWay, 4))) := rfl
theorem rz3_70 : mRz 3 70 = some (.inl (3, 4)) := rfl
theorem rz3_73 : mRz 3 73 = some (.inr (.inl (true, mAr_fill, 2))) := rfl
theorem rz4_9 : mRz 4 9 = some (.inl (4, 0)) := rfl
theorem rz4_15 : mRz 4 15 = some (.inl (4, 1)) := rfl
theorem rz4_18 : mRz 4 18 = some (.inl (4, 2)) := rfl
theorem rz4_21 : mRz 4 21 = some (.inl (4, 3)) := rfl
theorem rz4_24 : mRz 4 24 = some (.inl (4, 4)) := rfl
theorem rz4_27 : mRz 4 27 = some (.inl (4, 5)) := rfl
theorem rz4_31 : mRz 4 31 = some (.inl (4, 6)) := rfl
theorem rz4_34 : mRz 4 34 = some (.inl (4, 7)) := rfl
theorem rz4_37 : mRz 4 37 = some (.inl (4, 8)) := rfl
theorem rz4_41 : mRz 4 41 = some (.inr (.inr (.inr (.inr 0)))) := rfl
theorem rz4_47 : mRz 4 47 = some (.inr (.inl (false, mPr_has, 1))) := rfl
theorem rz4_51 : mRz 4 51 = some (.inr (.inl (true, mAr_fill, 2))) := rfl
theorem rz4_57 : mRz 4 57 = some (.inr (.inr (.inr (.inr 2)))) := rfl
theorem rz4_63 : mRz 4 63 = some (.inr (.inl (false, mPr_stands, 1))) := rfl
theorem rz5_9 : mRz 5 9 = some (.inl (5, 0)) := rfl
theorem rz5_15 : mRz 5 15 = some (.inl (5, 1)) := rfl
theorem rz5_18 : mRz 5 18 = some (.inl (5, 2)) := rfl
theorem rz5_21 : mRz 5 21 = some (.inl (5, 3)) := rfl
theorem rz5_24 : mRz 5 24 = some (.inl (5, 4)) := rfl
theorem rz5_27 : mRz 5 27 = some (.inl (5, 5)) := rfl
theorem rz5_30 : mRz 5 30 = some (.inr (.inl (true, mAr_fill, 2))) := rfl
theorem rz5_36 : mRz 5 36 = some (.inl (5, 6)) := rfl
theorem rz5_40 : mRz 5 40 = some (.inr (.inl (false, mTw_hasLoaf, 1))) := rfl
theorem rz5_46 : mRz 5 46 = some (.inl (8, 7)) := rfl
theorem rz5_49 : mRz 5 49 = some (.inl (8, 10)) := rfl
theorem rz5_52 : mRz 5 52 = some (.inl (8, 1)) := rfl
theorem rz5_56 : mRz 5 56 = some (.inl (4, 8)) := rfl
theorem rz5_61 : mRz 5 61 = some (.inl (4, 5)) := rfl
theorem rz5_65 : mRz 5 65 = some (.inl (4, 1)) := rfl
theorem rz5_68 : mRz 5 68 = some (.inl (4, 2)) := rfl
theorem rz5_71 : mRz 5 71 = some (.inl (4, 0)) := rfl
theorem rz5_72 : mRz 5 72 = some (.inl (4, 3)) := rfl
theorem rz5_75 : mRz 5 75 = some (.inr (.inr (.inr (.inr 3)))) := rfl
theorem rz5_81 : mRz 5 81 = some (.inr (.inl (false, mSh_lineUp, 0))) := rfl
theorem rz5_84 : mRz 5 84 = some (.inr (.inl (false, mSh_weigh, 2))) := rfl
theorem rz5_88 : mRz 5 88 = some (.inr (.inl (false, mTw_comesOf, 2))) := rfl
theorem rz5_92 : mRz 5 92 = some (.inr (.inl (false, mSh_deal, 1))) := rfl
theorem rz5_96 : mRz 5 96 = some (.inr (.inl (false, mTw_bakerOf, 1))) := rfl
theorem rz5_100 : mRz 5 100 = some (.inr (.inr (.inr (.inr 2)))) := rfl
theorem rz5_103 : mRz 5 103 = some (.inr (.inl (false, mTw_hasPerson, 1))) := rfl
theorem rz5_106 : mRz 5 106 = some (.inl (8, 15)) := rfl
theorem rz5_109 : mRz 5 109 = some (.inr (.inl (false, mTw_isPaper, 1))) := rfl
theorem rz5_112 : mRz 5 112 = some (.inr (.inl (false, mTw_isBaked, 1))) := rfl
theorem rz5_115 : mRz 5 115 = some (.inr (.inl (false, mSh_gathered, 1))) := rfl
theorem rz5_118 : mRz 5 118 = some (.inr (.inl (false, mTw_flourOf, 1))) := rfl
theorem rz6_12 : mRz 6 12 = some (.inl (6, 0)) := rfl
theorem rz6_20 : mRz 6 20 = some (.inl (6, 1)) := rfl
theorem rz6_24 : mRz 6 24 = some (.inr (.inl (false, mTw_clear, 0))) := rfl
theorem rz6_29 : mRz 6 29 = some (.inr (.inl (false, mTo_open, 1))) := rfl
theorem rz6_33 : mRz 6 33 = some (.inr (.inl (false, mTo_goesOn, 0))) := rfl
theorem rz6_37 : mRz 6 37 = some (.inr (.inl (false, mTo_wordHere, 0))) := rfl
theorem rz6_41 : mRz 6 41 = some (.inr (.inl (false, mTe_readPerson, 1))) := rfl
theorem rz6_45 : mRz 6 45 = some (.inr (.inl (false, mTe_readOven, 1))) := rfl
theorem rz6_48 : mRz 6 48 = some (.inr (.inl (false, mTe_readLoaf, 1))) := rfl
theorem rz6_51 : mRz 6 51 = some (.inr (.inl (false, mTe_readTownPromise, 1))) := rfl
theorem rz6_54 : mRz 6 54 = some (.inr (.inl (false, mTo_misplaced, 0))) := rfl
theorem rz6_57 : mRz 6 57 = some (.inl (7, 9)) := rfl
theorem rz6_61 : mRz 6 61 = some (.inr (.inl (false, mTo_blame, 1))) := rfl
theorem rz6_64 : mRz 6 64 = some (.inr (.inl (false, mTo_takeWord, 1))) := rfl
theorem rz6_67 : mRz 6 67 = some (.inr (.inl (false, mTo_takeSign, 1))) := rfl
theorem rz6_70 : mRz 6 70 = some (.inl (8, 13)) := rfl
theorem rz6_73 : mRz 6 73 = some (.inr (.inl (false, mTe_beginPart, 2))) := rfl
theorem rz6_77 : mRz 6 77 = some (.inl (8, 0)) := rfl
theorem rz6_81 : mRz 6 81 = some (.inr (.inl (false, mTo_takeNewName, 1))) := rfl
theorem rz6_85 : mRz 6 85 = some (.inr (.inl (false, mTo_skips, 1))) := rfl
theorem rz6_89 : mRz 6 89 = some (.inr (.inl (false, mTo_takeNumber, 2))) := rfl
theorem rz6_93 : mRz 6 93 = some (.inr (.inl (false, mTe_endsPart, 0))) := rfl
theorem rz6_96 : mRz 6 96 = some (.inr (.inl (false, mTw_addPerson, 2))) := rfl
theorem rz6_100 : mRz 6 100 = some (.inl (8, 14)) := rfl
theorem rz6_103 : mRz 6 103 = some (.inr (.inl (false, mTw_addOven, 2))) := rfl
theorem rz6_106 : mRz 6 106 = some (.inl (8, 15)) := rfl
theorem rz6_111 : mRz 6 111 = some (.inr (.inl (false, mTo_takeName, 3))) := rfl
theorem rz6_115 : mRz 6 115 = some (.inr (.inl (false, mTw_addLoaf, 6))) := rfl
theorem rz6_119 : mRz 6 119 = some (.inl (8, 1)) := rfl
theorem rz6_123 : mRz 6 123 = some (.inl (4, 8)) := rfl
theorem rz6_128 : mRz 6 128 = some (.inr (.inl (false, mTe_readPromise, 1))) := rfl
theorem rz6_132 : mRz 6 132 = some (.inr (.inl (false, mTw_handOn, 5))) := rfl
theorem rz6_136 : mRz 6 136 = some (.inr (.inl (false, mDa_clear, 0))) := rfl
theorem rz6_137 : mRz 6 137 = some (.inr (.inl (true, mAr_fill, 2))) := rfl
theorem rz6_143 : mRz 6 143 = some (.inr (.inl (false, mTe_readEnd, 1))) := rfl
theorem rz6_147 : mRz 6 147 = some (.inr (.inl (false, mTe_mayStepHere, 2))) := rfl
theorem rz6_151 : mRz 6 151 = some (.inr (.inl (false, mTe_readStep, 2))) := rfl
theorem rz6_155 : mRz 6 155 = some (.inr (.inl (false, mTe_addStep, 2))) := rfl
theorem rz6_159 : mRz 6 159 = some (.inl (0, 2)) := rfl
theorem rz6_162 : mRz 6 162 = some (.inl (0, 5)) := rfl
theorem rz6_166 : mRz 6 166 = some (.inr (.inl (false, mDa_close, 1))) := rfl
theorem rz6_170 : mRz 6 170 = some (.inr (.inl (true, mTe_isStep, 1))) := rfl
theorem rz6_173 : mRz 6 173 = some (.inl (0, 4)) := rfl
theorem rz6_176 : mRz 6 176 = some (.inr (.inl (true, mTe_begins, 1))) := rfl
theorem rz6_179 : mRz 6 179 = some (.inr (.inl (false, mDa_add, 2))) := rfl
theorem rz6_183 : mRz 6 183 = some (.inr (.inl (false, mDa_begin, 0))) := rfl
theorem rz6_186 : mRz 6 186 = some (.inr (.inl (false, mTe_readTest, 1))) := rfl
theorem rz6_189 : mRz 6 189 = some (.inr (.inl (false, mTo_takeCompares, 0))) := rfl
theorem rz7_9 : mRz 7 9 = some (.inl (7, 0)) := rfl
theorem rz7_15 : mRz 7 15 = some (.inl (7, 1)) := rfl
theorem rz7_31 : mRz 7 31 = some (.inr (.inr (.inr (.inl (32))))) := rfl
theorem rz7_33 : mRz 7 33 = some (.inl (7, 2)) := rfl
theorem rz7_37 : mRz 7 37 = some (.inr (.inl (false, mTo_hasRoomFor, 1))) := rfl
theorem rz7_41 : mRz 7 41 = some (.inr (.inr (.inr (.inr 3)))) := rfl
theorem rz7_47 : mRz 7 47 = some (.inr (.inr (.inr (.inr 2)))) := rfl
theorem rz7_50 : mRz 7 50 = some (.inl (7, 3)) := rfl
theorem rz7_52 : mRz 7 52 = some (.inl (7, 6)) := rfl
theorem rz7_55 : mRz 7 55 = some (.inl (7, 9)) := rfl
theorem rz7_58 : mRz 7 58 = some (.inl (7, 10)) := rfl
theorem rz7_61 : mRz 7 61 = some (.inr (.inl (false, mTo_advance, 0))) := rfl
theorem rz7_64 : mRz 7 64 = some (.inl (7, 5)) := rfl
theorem rz7_67 : mRz 7 67 = some (.inl (7, 8)) := rfl
theorem rz7_71 : mRz 7 71 = some (.inl (7, 4)) := rfl
theorem rz7_74 : mRz 7 74 = some (.inr (.inl (false, mTo_cutWord, 0))) := rfl
theorem rz7_77 : mRz 7 77 = some (.inr (.inl (false, mTo_cutNumber, 0))) := rfl
theorem rz7_80 : mRz 7 80 = some (.inl (7, 7)) := rfl
theorem rz7_83 : mRz 7 83 = some (.inr (.inl (false, mTo_blame, 1))) := rfl
theorem rz7_87 : mRz 7 87 = some (.inr (.inl (false, mTo_isWord, 1))) := rfl
theorem rz7_90 : mRz 7 90 = some (.inr (.inl (false, mTo_misplaced, 0))) := rfl
theorem rz7_93 : mRz 7 93 = some (.inr (.inl (false, mTo_wordHere, 0))) := rfl
theorem rz7_96 : mRz 7 96 = some (.inr (.inl (false, mTo_seesName, 0))) := rfl
theorem rz7_100 : mRz 7 100 = some (.inr (.inl (false, mNa_isTaken, 1))) := rfl
theorem rz7_106 : mRz 7 106 = some (.inr (.inl (false, mNa_numberOf, 2))) := rfl
theorem rz8_12 : mRz 8 12 = some (.inl (8, 0)) := rfl
theorem rz8_21 : mRz 8 21 = some (.inl (8, 1)) := rfl
theorem rz8_28 : mRz 8 28 = some (.inl (8, 2)) := rfl
theorem rz8_32 : mRz 8 32 = some (.inl (8, 3)) := rfl
theorem rz8_36 : mRz 8 36 = some (.inl (8, 4)) := rfl
theorem rz8_39 : mRz 8 39 = some (.inl (8, 5)) := rfl
theorem rz8_42 : mRz 8 42 = some (.inl (8, 6)) := rfl
theorem rz8_45 : mRz 8 45 = some (.inl (8, 7)) := rfl
theorem rz8_48 : mRz 8 48 = some (.inl (8, 8)) := rfl
theorem rz8_51 : mRz 8 51 = some (.inl (8, 9)) := rfl
theorem rz8_54 : mRz 8 54 = some (.inl (8, 10)) := rfl
theorem rz8_57 : mRz 8 57 = some (.inl (8, 11)) := rfl
theorem rz8_60 : mRz 8 60 = some (.inl (8, 12)) := rfl
theorem rz8_63 : mRz 8 63 = some (.inr (.inl (false, mNa_clear, 0))) := rfl
theorem rz8_66 : mRz 8 66 = some (.inl (4, 8)) := rfl
theorem rz8_70 : mRz 8 70 = some (.inr (.inl (false, mDa_clear, 0))) := rfl
theorem rz8_71 : mRz 8 71 = some (.inl (8, 13)) := rfl
theorem rz8_74 : mRz 8 74 = some (.inl (8, 14)) := rfl
theorem rz8_77 : mRz 8 77 = some (.inl (8, 15)) := rfl
theorem rz8_80 : mRz 8 80 = some (.inl (8, 16)) := rfl
theorem rz8_83 : mRz 8 83 = some (.inl (8, 17)) := rfl
theorem rz8_86 : mRz 8 86 = some (.inl (8, 18)) := rfl
theorem rz8_89 : mRz 8 89 = some (.inr (.inl (false, mNa_copyOf, 1))) := rfl
theorem rz8_93 : mRz 8 93 = some (.inr (.inl (false, mPr_copyOf, 1))) := rfl
theorem rz8_96 : mRz 8 96 = some (.inr (.inl (false, mDa_copyOf, 1))) := rfl
theorem rz8_99 : mRz 8 99 = some (.inr (.inr (.inr (.inr 0)))) := rfl
theorem rz8_105 : mRz 8 105 = some (.inr (.inl (false, mNa_give, 3))) := rfl
theorem rz8_109 : mRz 8 109 = some (.inr (.inl (false, mTw_hasPerson, 1))) := rfl
theorem rz8_113 : mRz 8 113 = some (.inr (.inl (false, mTw_hasLoaf, 1))) := rfl
theorem rz8_116 : mRz 8 116 = some (.inr (.inl (false, mPr_hasRoom, 0))) := rfl
theorem rz8_120 : mRz 8 120 = some (.inl (4, 0)) := rfl
theorem rz8_121 : mRz 8 121 = some (.inl (4, 1)) := rfl
theorem rz8_124 : mRz 8 124 = some (.inl (4, 2)) := rfl
theorem rz8_127 : mRz 8 127 = some (.inl (4, 3)) := rfl
theorem rz8_130 : mRz 8 130 = some (.inl (4, 4)) := rfl
theorem rz8_133 : mRz 8 133 = some (.inl (4, 5)) := rfl
theorem rz8_137 : mRz 8 137 = some (.inr (.inl (false, mPr_stands, 1))) := rfl
theorem rz8_140 : mRz 8 140 = some (.inr (.inl (false, mTw_isBaked, 1))) := rfl
theorem rz8_143 : mRz 8 143 = some (.inr (.inl (false, mTw_isPaper, 1))) := rfl
theorem rz8_146 : mRz 8 146 = some (.inr (.inl (false, mTw_isWet, 1))) := rfl
theorem rz8_149 : mRz 8 149 = some (.inl (5, 3)) := rfl
theorem rz8_154 : mRz 8 154 = some (.inl (5, 4)) := rfl
theorem rz8_157 : mRz 8 157 = some (.inr (.inl (false, mTw_rainsOn, 1))) := rfl
theorem rz8_160 : mRz 8 160 = some (.inr (.inl (false, mTw_comesOf, 2))) := rfl
theorem rz8_164 : mRz 8 164 = some (.inr (.inr (.inr (.inr 3)))) := rfl
theorem rz9_11 : mRz 9 11 = some (.inl (9, 0)) := rfl
theorem rz9_15 : mRz 9 15 = some (.inl (9, 1)) := rfl
theorem rz9_19 : mRz 9 19 = some (.inl (9, 2)) := rfl
theorem rz9_22 : mRz 9 22 = some (.inr (.inl (true, mAr_fill, 2))) := rfl
theorem rz9_28 : mRz 9 28 = some (.inr (.inl (false, mTr_exists, 1))) := rfl
theorem rz9_32 : mRz 9 32 = some (.inr (.inl (false, mTr_isMissing, 1))) := rfl
theorem rz9_35 : mRz 9 35 = some (.inr (.inl (false, mTr_lengthOf, 1))) := rfl
theorem rz9_39 : mRz 9 39 = some (.inr (.inl (false, mTr_hasRow, 3))) := rfl
theorem rz9_43 : mRz 9 43 = some (.inr (.inl (true, mTr_cutTo, 2))) := rfl
theorem rz9_47 : mRz 9 47 = some (.inr (.inr (.inr (.inr 0)))) := rfl
theorem rz9_53 : mRz 9 53 = some (.inr (.inl (false, mTr_at, 2))) := rfl
theorem rz10_10 : mRz 10 10 = some (.inl (10, 0)) := rfl
theorem rz10_19 : mRz 10 19 = some (.inl (10, 1)) := rfl
theorem rz10_26 : mRz 10 26 = some (.inl (10, 2)) := rfl
theorem rz10_30 : mRz 10 30 = some (.inl (10, 3)) := rfl
theorem rz10_33 : mRz 10 33 = some (.inl (10, 4)) := rfl
theorem rz10_40 : mRz 10 40 = some (.inl (10, 5)) := rfl
theorem rz10_47 : mRz 10 47 = some (.inl (10, 6)) := rfl
theorem rz10_54 : mRz 10 54 = some (.inl (10, 7)) := rfl
theorem rz10_58 : mRz 10 58 = some (.inl (10, 8)) := rfl
theorem rz10_61 : mRz 10 61 = some (.inl (10, 12)) := rfl
theorem rz10_65 : mRz 10 65 = some (.inl (10, 13)) := rfl
theorem rz10_69 : mRz 10 69 = some (.inl (10, 14)) := rfl
theorem rz10_72 : mRz 10 72 = some (.inl (10, 10)) := rfl
theorem rz10_75 : mRz 10 75 = some (.inl (10, 11)) := rfl
theorem rz10_78 : mRz 10 78 = some (.inr (.inl (false, mTr_exists, 1))) := rfl
theorem rz10_82 : mRz 10 82 = some (.inr (.inl (false, mTr_isSort, 1))) := rfl
theorem rz10_85 : mRz 10 85 = some (.inr (.inl (false, mPb_deny, 1))) := rfl
theorem rz10_88 : mRz 10 88 = some (.inr (.inl (false, mTr_lay, 3))) := rfl
theorem rz10_92 : mRz 10 92 = some (.inr (.inl (false, mPb_grant, 0))) := rfl
theorem rz10_96 : mRz 10 96 = some (.inr (.inl (false, mTr_whyNot, 2))) := rfl
theorem rz10_100 : mRz 10 100 = some (.inr (.inl (false, mTr_put, 3))) := rfl
theorem rz10_104 : mRz 10 104 = some (.inr (.inl (false, mPb_refuse, 1))) := rfl
theorem rz10_108 : mRz 10 108 = some (.inr (.inl (false, mTr_at, 2))) := rfl
theorem rz10_112 : mRz 10 112 = some (.inr (.inl (false, mTr_isMissing, 1))) := rfl
theorem rz10_115 : mRz 10 115 = some (.inr (.inl (false, mTr_alike, 2))) := rfl
theorem rz10_119 : mRz 10 119 = some (.inr (.inl (false, mTr_hasRow, 3))) := rfl
theorem rz10_123 : mRz 10 123 = some (.inr (.inl (false, mTr_move, 5))) := rfl
theorem rz10_127 : mRz 10 127 = some (.inl (6, 0)) := rfl
theorem rz10_131 : mRz 10 131 = some (.inr (.inl (false, mTo_hasRoomFor, 1))) := rfl
theorem rz10_136 : mRz 10 136 = some (.inr (.inl (false, mTo_append, 1))) := rfl
theorem rz10_140 : mRz 10 140 = some (.inl (7, 2)) := rfl
theorem rz10_143 : mRz 10 143 = some (.inr (.inl (false, mTe_readTown, 2))) := rfl
theorem rz10_147 : mRz 10 147 = some (.inr (.inl (false, mPb_keepFault, 0))) := rfl
theorem rz10_150 : mRz 10 150 = some (.inr (.inl (true, mPb_carry, 2))) := rfl
theorem rz10_154 : mRz 10 154 = some (.inl (8, 15)) := rfl
theorem rz10_157 : mRz 10 157 = some (.inr (.inl (false, mPb_answer, 1))) := rfl
theorem rz10_160 : mRz 10 160 = some (.inl (8, 0)) := rfl
theorem rz10_164 : mRz 10 164 = some (.inl (8, 2)) := rfl
theorem rz10_168 : mRz 10 168 = some (.inr (.inl (false, mTe_readDays, 3))) := rfl
theorem rz10_172 : mRz 10 172 = some (.inr (.inl (false, mDa_copyOf, 1))) := rfl
theorem rz10_178 : mRz 10 178 = some (.inl (0, 4)) := rfl
theorem rz10_181 : mRz 10 181 = some (.inl (8, 13)) := rfl
theorem rz10_184 : mRz 10 184 = some (.inl (8, 14)) := rfl
theorem rz10_187 : mRz 10 187 = some (.inl (8, 1)) := rfl
theorem rz10_191 : mRz 10 191 = some (.inl (4, 8)) := rfl
theorem rz10_196 : mRz 10 196 = some (.inl (8, 16)) := rfl
theorem rz10_199 : mRz 10 199 = some (.inl (8, 17)) := rfl
theorem rz10_202 : mRz 10 202 = some (.inl (8, 18)) := rfl
theorem rz10_205 : mRz 10 205 = some (.inr (.inl (false, mTw_hasPerson, 1))) := rfl
theorem rz10_208 : mRz 10 208 = some (.inl (8, 3)) := rfl
theorem rz10_212 : mRz 10 212 = some (.inl (8, 4)) := rfl
theorem rz10_215 : mRz 10 215 = some (.inl (8, 5)) := rfl
theorem rz10_218 : mRz 10 218 = some (.inr (.inl (false, mTw_hasLoaf, 1))) := rfl
theorem rz10_221 : mRz 10 221 = some (.inl (8, 7)) := rfl
theorem rz10_224 : mRz 10 224 = some (.inr (.inl (false, mTw_isPaper, 1))) := rfl
theorem rz10_227 : mRz 10 227 = some (.inl (8, 8)) := rfl
theorem rz10_230 : mRz 10 230 = some (.inl (8, 9)) := rfl
theorem rz10_233 : mRz 10 233 = some (.inl (8, 10)) := rfl
theorem rz10_236 : mRz 10 236 = some (.inl (8, 11)) := rfl
theorem rz10_239 : mRz 10 239 = some (.inr (.inl (false, mTw_isBaked, 1))) := rfl
theorem rz10_242 : mRz 10 242 = some (.inl (8, 12)) := rfl
theorem rz10_245 : mRz 10 245 = some (.inr (.inl (false, mPr_has, 1))) := rfl
theorem rz10_248 : mRz 10 248 = some (.inl (4, 0)) := rfl
theorem rz10_249 : mRz 10 249 = some (.inl (4, 1)) := rfl
theorem rz10_252 : mRz 10 252 = some (.inl (4, 2)) := rfl
theorem rz10_255 : mRz 10 255 = some (.inl (4, 3)) := rfl
theorem rz10_258 : mRz 10 258 = some (.inl (4, 4)) := rfl
theorem rz10_261 : mRz 10 261 = some (.inl (4, 5)) := rfl
theorem rz10_265 : mRz 10 265 = some (.inr (.inl (false, mSh_weigh, 2))) := rfl
theorem rz10_269 : mRz 10 269 = some (.inl (5, 0)) := rfl
theorem rz10_272 : mRz 10 272 = some (.inr (.inl (false, mPr_deepest, 2))) := rfl
theorem rz10_275 : mRz 10 275 = some (.inl (5, 1)) := rfl
theorem rz10_278 : mRz 10 278 = some (.inl (5, 6)) := rfl
theorem rz10_281 : mRz 10 281 = some (.inl (5, 2)) := rfl
theorem rz10_284 : mRz 10 284 = some (.inr (.inl (false, mTw_comesOf, 2))) := rfl
theorem rz10_288 : mRz 10 288 = some (.inr (.inl (false, mSh_deal, 1))) := rfl
theorem rz10_291 : mRz 10 291 = some (.inr (.inl (false, mSh_ownerOf, 1))) := rfl
theorem rz10_294 : mRz 10 294 = some (.inr (.inl (false, mTw_bakerOf, 1))) := rfl
theorem rz10_297 : mRz 10 297 = some (.inl (4, 6)) := rfl
theorem rz10_300 : mRz 10 300 = some (.inr (.inl (false, mPr_handed, 2))) := rfl
theorem rz10_303 : mRz 10 303 = some (.inr (.inl (false, mPb_wouldGet, 3))) := rfl
theorem rz10_307 : mRz 10 307 = some (.inr (.inl (false, mSh_settle, 3))) := rfl
theorem rz10_311 : mRz 10 311 = some (.inl (5, 4)) := rfl
theorem rz10_314 : mRz 10 314 = some (.inr (.inl (false, mTw_rainOn, 1))) := rfl
theorem rz10_317 : mRz 10 317 = some (.inr (.inr (.inr (.inl (16))))) := rfl
theorem rz10_319 : mRz 10 319 = some (.inr (.inl (false, mPb_tell, 2))) := rfl
theorem rz10_323 : mRz 10 323 = some (.inr (.inl (false, mPr_surplus, 1))) := rfl
theorem rz10_326 : mRz 10 326 = some (.inr (.inl (false, mNe_fewestHandOvers, 1))) := rfl
theorem rz10_330 : mRz 10 330 = some (.inr (.inl (false, mNe_findRing, 1))) := rfl
theorem rz10_334 : mRz 10 334 = some (.inl (3, 4)) := rfl
theorem rz10_337 : mRz 10 337 = some (.inl (3, 3)) := rfl
theorem rz10_340 : mRz 10 340 = some (.inr (.inl (false, mSh_gather, 2))) := rfl
theorem rz10_343 : mRz 10 343 = some (.inr (.inl (false, mSh_cheapestSet, 2))) := rfl
theorem rz10_347 : mRz 10 347 = some (.inr (.inl (false, mTw_flourOf, 1))) := rfl
theorem rz10_350 : mRz 10 350 = some (.inr (.inl (false, mSh_othersHold, 1))) := rfl
theorem rz10_353 : mRz 10 353 = some (.inr (.inl (false, mTr_lengthOf, 1))) := rfl
theorem rz10_356 : mRz 10 356 = some (.inr (.inr (.inr (.inl (999))))) := rfl
theorem rz10_358 : mRz 10 358 = some (.inr (.inl (false, mTr_allWithin, 3))) := rfl
theorem rz10_362 : mRz 10 362 = some (.inr (.inl (false, mPb_firstBrokenDay, 3))) := rfl
theorem rz10_366 : mRz 10 366 = some (.inr (.inl (true, mPb_cuttingTurn, 4))) := rfl
theorem rz10_370 : mRz 10 370 = some (.inr (.inr (.inr (.inl (9999))))) := rfl
theorem rz10_372 : mRz 10 372 = some (.inr (.inl (false, mTr_placeOfMost, 3))) := rfl
theorem rz10_375 : mRz 10 375 = some (.inr (.inl (false, mPr_hasRoom, 0))) := rfl
theorem rz10_378 : mRz 10 378 = some (.inr (.inl (false, mTw_handOn, 5))) := rfl
theorem rz10_382 : mRz 10 382 = some (.inr (.inl (false, mTw_release, 1))) := rfl
theorem rz10_385 : mRz 10 385 = some (.inr (.inl (false, mTw_canBake, 1))) := rfl
theorem rz10_388 : mRz 10 388 = some (.inr (.inl (false, mTw_rainsOn, 1))) := rfl
theorem rz10_391 : mRz 10 391 = some (.inr (.inl (false, mTw_bringOut, 2))) := rfl
theorem rz10_395 : mRz 10 395 = some (.inr (.inl (false, mTw_feast, 2))) := rfl
theorem rz10_398 : mRz 10 398 = some (.inr (.inl (false, mTw_handMoney, 3))) := rfl
theorem rz10_401 : mRz 10 401 = some (.inl (0, 5)) := rfl
theorem rz10_405 : mRz 10 405 = some (.inr (.inl (false, mLi_run, 2))) := rfl
theorem rz10_408 : mRz 10 408 = some (.inl (10, 15)) := rfl
theorem rz10_411 : mRz 10 411 = some (.inl (1, 3)) := rfl
theorem rz10_412 : mRz 10 412 = some (.inl (1, 4)) := rfl
theorem rz10_415 : mRz 10 415 = some (.inl (1, 5)) := rfl
theorem rz10_418 : mRz 10 418 = some (.inl (1, 6)) := rfl
theorem rz10_421 : mRz 10 421 = some (.inl (1, 7)) := rfl
theorem rz10_424 : mRz 10 424 = some (.inl (1, 8)) := rfl
theorem rz10_427 : mRz 10 427 = some (.inl (10, 9)) := rfl
theorem rz10_430 : mRz 10 430 = some (.inl (7, 9)) := rfl
theorem rz10_433 : mRz 10 433 = some (.inl (7, 10)) := rfl
theorem rz10_436 : mRz 10 436 = some (.inl (5, 3)) := rfl
theorem rz10_439 : mRz 10 439 = some (.inl (5, 5)) := rfl
theorem rz10_442 : mRz 10 442 = some (.inr (.inr (.inr (.inr 3)))) := rfl
theorem rz10_447 : mRz 10 447 = some (.inr (.inl (false, mTw_copyOf, 1))) := rfl
theorem rz11_7 : mRz 11 7 = some (.inl (11, 3)) := rfl
theorem rz11_13 : mRz 11 13 = some (.inl (11, 4)) := rfl
theorem rz11_17 : mRz 11 17 = some (.inl (11, 5)) := rfl
theorem rz11_20 : mRz 11 20 = some (.inl (11, 6)) := rfl
theorem rz11_24 : mRz 11 24 = some (.inl (11, 7)) := rfl
theorem rz11_28 : mRz 11 28 = some (.inl (11, 10)) := rfl
theorem rz11_32 : mRz 11 32 = some (.inl (11, 11)) := rfl
theorem rz11_35 : mRz 11 35 = some (.inl (11, 20)) := rfl
theorem rz11_38 : mRz 11 38 = some (.inl (11, 21)) := rfl
theorem rz11_41 : mRz 11 41 = some (.inl (11, 22)) := rfl
theorem rz11_44 : mRz 11 44 = some (.inl (11, 25)) := rfl
theorem rz11_47 : mRz 11 47 = some (.inl (11, 26)) := rfl
theorem rz11_50 : mRz 11 50 = some (.inl (11, 27)) := rfl
theorem rz11_53 : mRz 11 53 = some (.inl (11, 29)) := rfl
theorem rz11_56 : mRz 11 56 = some (.inl (11, 30)) := rfl
theorem rz11_59 : mRz 11 59 = some (.inl (11, 31)) := rfl
theorem rz11_62 : mRz 11 62 = some (.inl (11, 32)) := rfl
theorem rz11_65 : mRz 11 65 = some (.inl (11, 34)) := rfl
theorem rz11_68 : mRz 11 68 = some (.inl (11, 35)) := rfl
theorem rz11_71 : mRz 11 71 = some (.inl (11, 36)) := rfl
theorem rz11_74 : mRz 11 74 = some (.inl (11, 1)) := rfl
theorem rz11_77 : mRz 11 77 = some (.inl (11, 0)) := rfl
theorem rz11_80 : mRz 11 80 = some (.inl (11, 2)) := rfl
theorem rz11_83 : mRz 11 83 = some (.inr (.inr (.inr (.inr 5)))) := rfl
theorem rz11_89 : mRz 11 89 = some (.inr (.inl (false, mMo_no, 1))) := rfl
theorem rz11_93 : mRz 11 93 = some (.inr (.inl (false, mMo_trayed, 1))) := rfl
theorem rz11_97 : mRz 11 97 = some (.inr (.inl (false, mMo_placed, 2))) := rfl
theorem rz11_101 : mRz 11 101 = some (.inr (.inl (true, mMo_cut, 2))) := rfl
theorem rz11_105 : mRz 11 105 = some (.inr (.inr (.inr (.inl (-1))))) := rfl
theorem rz11_107 : mRz 11 107 = some (.inr (.inr (.inr (.inl (3))))) := rfl
theorem rz11_109 : mRz 11 109 = some (.inr (.inl (true, mMo_isIn, 3))) := rfl
theorem rz11_113 : mRz 11 113 = some (.inl (11, 9)) := rfl
theorem rz11_116 : mRz 11 116 = some (.inl (11, 16)) := rfl
theorem rz11_119 : mRz 11 119 = some (.inl (11, 15)) := rfl
theorem rz11_122 : mRz 11 122 = some (.inr (.inl (false, mMo_look2, 1))) := rfl
theorem rz11_125 : mRz 11 125 = some (.inl (11, 14)) := rfl
theorem rz11_128 : mRz 11 128 = some (.inr (.inl (true, mMo_isLetter, 1))) := rfl
theorem rz11_131 : mRz 11 131 = some (.inl (11, 19)) := rfl
theorem rz11_134 : mRz 11 134 = some (.inr (.inr (.inr (.inl (32))))) := rfl
theorem rz11_136 : mRz 11 136 = some (.inr (.inr (.inr (.inl (96))))) := rfl
theorem rz11_138 : mRz 11 138 = some (.inl (11, 18)) := rfl
theorem rz11_141 : mRz 11 141 = some (.inr (.inl (true, mMo_isDigit, 1))) := rfl
theorem rz11_144 : mRz 11 144 = some (.inl (11, 17)) := rfl
theorem rz11_147 : mRz 11 147 = some (.inr (.inl (false, mMo_isSignByte, 1))) := rfl
theorem rz11_150 : mRz 11 150 = some (.inr (.inl (true, mMo_spelled, 6))) := rfl
theorem rz11_154 : mRz 11 154 = some (.inr (.inl (false, mMo_isWord, 1))) := rfl
theorem rz11_158 : mRz 11 158 = some (.inr (.inr (.inr (.inl (5))))) := rfl
theorem rz11_160 : mRz 11 160 = some (.inr (.inl (false, mMo_isPromise, 0))) := rfl
theorem rz11_164 : mRz 11 164 = some (.inr (.inl (false, mMo_isPerson, 0))) := rfl
theorem rz11_167 : mRz 11 167 = some (.inr (.inl (false, mMo_isPurse, 0))) := rfl
theorem rz11_170 : mRz 11 170 = some (.inr (.inl (false, mMo_isOven, 0))) := rfl
theorem rz11_173 : mRz 11 173 = some (.inr (.inl (false, mMo_isRain, 0))) := rfl
theorem rz11_176 : mRz 11 176 = some (.inr (.inl (false, mMo_isLoaf, 0))) := rfl
theorem rz11_179 : mRz 11 179 = some (.inr (.inl (false, mMo_isBy, 0))) := rfl
theorem rz11_182 : mRz 11 182 = some (.inr (.inl (false, mMo_isInWord, 0))) := rfl
theorem rz11_185 : mRz 11 185 = some (.inr (.inl (false, mMo_isOn, 0))) := rfl
theorem rz11_188 : mRz 11 188 = some (.inr (.inl (false, mMo_isSlices, 0))) := rfl
theorem rz11_191 : mRz 11 191 = some (.inr (.inl (false, mMo_isFlour, 0))) := rfl
theorem rz11_194 : mRz 11 194 = some (.inr (.inl (false, mMo_isOf, 0))) := rfl
theorem rz11_197 : mRz 11 197 = some (.inr (.inl (false, mMo_isFrom, 0))) := rfl
theorem rz11_200 : mRz 11 200 = some (.inr (.inl (false, mMo_isTo, 0))) := rfl
theorem rz11_203 : mRz 11 203 = some (.inr (.inl (false, mMo_isFor, 0))) := rfl
theorem rz11_206 : mRz 11 206 = some (.inr (.inl (false, mMo_stepWord, 0))) := rfl
theorem rz11_210 : mRz 11 210 = some (.inr (.inl (false, mMo_testWord, 0))) := rfl
theorem rz11_213 : mRz 11 213 = some (.inr (.inl (false, mMo_isEnd, 0))) := rfl
theorem rz11_216 : mRz 11 216 = some (.inr (.inl (false, mMo_isKept, 0))) := rfl
theorem rz11_219 : mRz 11 219 = some (.inl (11, 12)) := rfl
theorem rz11_222 : mRz 11 222 = some (.inl (11, 13)) := rfl
theorem rz11_225 : mRz 11 225 = some (.inr (.inl (false, mMo_fail, 2))) := rfl
theorem rz11_229 : mRz 11 229 = some (.inr (.inl (false, mMo_next, 0))) := rfl
theorem rz11_232 : mRz 11 232 = some (.inr (.inl (false, mMo_wrong, 0))) := rfl
theorem rz11_235 : mRz 11 235 = some (.inl (11, 8)) := rfl
theorem rz11_238 : mRz 11 238 = some (.inr (.inl (false, mMo_lay, 1))) := rfl
theorem rz11_242 : mRz 11 242 = some (.inr (.inl (false, mMo_named, 3))) := rfl
theorem rz11_246 : mRz 11 246 = some (.inr (.inl (false, mMo_isName, 0))) := rfl
theorem rz11_249 : mRz 11 249 = some (.inr (.inl (false, mMo_personNamed, 1))) := rfl
theorem rz11_252 : mRz 11 252 = some (.inr (.inl (false, mMo_ovenNamed, 1))) := rfl
theorem rz11_255 : mRz 11 255 = some (.inr (.inl (false, mMo_loafNamed, 1))) := rfl
theorem rz11_258 : mRz 11 258 = some (.inr (.inr (.inr (.inr 2)))) := rfl
theorem rz11_261 : mRz 11 261 = some (.inr (.inl (false, mMo_told, 2))) := rfl
theorem rz11_264 : mRz 11 264 = some (.inr (.inl (false, mMo_must, 1))) := rfl
theorem rz11_268 : mRz 11 268 = some (.inr (.inl (false, mMo_readNew, 1))) := rfl
theorem rz11_271 : mRz 11 271 = some (.inr (.inl (false, mMo_count, 2))) := rfl
theorem rz11_274 : mRz 11 274 = some (.inr (.inl (false, mMo_readTold, 2))) := rfl
theorem rz11_277 : mRz 11 277 = some (.inr (.inl (false, mMo_readPart, 2))) := rfl
theorem rz11_280 : mRz 11 280 = some (.inr (.inl (false, mMo_opens, 2))) := rfl
theorem rz11_284 : mRz 11 284 = some (.inr (.inl (false, mMo_readPerson, 0))) := rfl
theorem rz11_287 : mRz 11 287 = some (.inr (.inl (false, mMo_readOven, 0))) := rfl
theorem rz11_290 : mRz 11 290 = some (.inr (.inl (false, mMo_readLoaf, 0))) := rfl
theorem rz11_293 : mRz 11 293 = some (.inr (.inl (false, mMo_readPromise, 0))) := rfl
theorem rz11_296 : mRz 11 296 = some (.inr (.inl (false, mMo_isSign, 1))) := rfl
theorem rz11_299 : mRz 11 299 = some (.inr (.inl (false, mMo_isWell, 0))) := rfl
theorem rz11_302 : mRz 11 302 = some (.inr (.inl (false, mMo_copy, 2))) := rfl
theorem rz11_305 : mRz 11 305 = some (.inr (.inl (false, mMo_readTest, 1))) := rfl
theorem rz11_308 : mRz 11 308 = some (.inl (11, 24)) := rfl
theorem rz11_311 : mRz 11 311 = some (.inr (.inl (false, mMo_readRest, 1))) := rfl
theorem rz11_314 : mRz 11 314 = some (.inr (.inl (false, mMo_readStep, 1))) := rfl
theorem rz11_317 : mRz 11 317 = some (.inr (.inl (true, mMo_part, 1))) := rfl
theorem rz11_320 : mRz 11 320 = some (.inr (.inl (false, mMo_isMade, 1))) := rfl
theorem rz11_323 : mRz 11 323 = some (.inr (.inl (false, mMo_isBaked, 1))) := rfl
theorem rz11_326 : mRz 11 326 = some (.inr (.inl (false, mMo_bakedSet, 0))) := rfl
theorem rz11_329 : mRz 11 329 = some (.inr (.inl (false, mMo_refuse, 1))) := rfl
theorem rz11_332 : mRz 11 332 = some (.inr (.inl (false, mMo_isPersonAt, 1))) := rfl
theorem rz11_335 : mRz 11 335 = some (.inr (.inl (false, mMo_isLoafAt, 1))) := rfl
theorem rz11_338 : mRz 11 338 = some (.inr (.inl (false, mMo_isPaper, 1))) := rfl
theorem rz11_341 : mRz 11 341 = some (.inr (.inl (false, mMo_isPromiseAt, 1))) := rfl
theorem rz11_344 : mRz 11 344 = some (.inr (.inl (false, mMo_isOfLoaf, 2))) := rfl
theorem rz11_347 : mRz 11 347 = some (.inr (.inl (false, mMo_holdsOf, 2))) := rfl
theorem rz11_350 : mRz 11 350 = some (.inr (.inl (false, mMo_deepens, 0))) := rfl
theorem rz11_353 : mRz 11 353 = some (.inr (.inr (.inl (1000000)))) := rfl
theorem rz11_354 : mRz 11 354 = some (.inr (.inl (false, mMo_turnOf, 2))) := rfl
theorem rz11_357 : mRz 11 357 = some (.inl (11, 28)) := rfl
theorem rz11_360 : mRz 11 360 = some (.inr (.inl (false, mMo_lines, 1))) := rfl
theorem rz11_363 : mRz 11 363 = some (.inr (.inl (false, mMo_comes, 2))) := rfl
theorem rz11_367 : mRz 11 367 = some (.inr (.inr (.inr (.inr 3)))) := rfl
theorem rz11_370 : mRz 11 370 = some (.inr (.inl (false, mMo_deals, 2))) := rfl
theorem rz11_374 : mRz 11 374 = some (.inr (.inl (false, mMo_getsOf, 3))) := rfl
theorem rz11_378 : mRz 11 378 = some (.inr (.inl (false, mMo_unmet, 2))) := rfl
theorem rz11_381 : mRz 11 381 = some (.inr (.inl (false, mMo_owesOf, 2))) := rfl
theorem rz11_384 : mRz 11 384 = some (.inr (.inr (.inr (.inl (16))))) := rfl
theorem rz11_386 : mRz 11 386 = some (.inr (.inl (false, mMo_fraction, 2))) := rfl
theorem rz11_390 : mRz 11 390 = some (.inr (.inl (false, mMo_netOf, 1))) := rfl
theorem rz11_393 : mRz 11 393 = some (.inr (.inl (true, mMo_has, 2))) := rfl
theorem rz11_396 : mRz 11 396 = some (.inr (.inl (false, mMo_goesRound, 3))) := rfl
theorem rz11_400 : mRz 11 400 = some (.inl (11, 33)) := rfl
theorem rz11_403 : mRz 11 403 = some (.inr (.inr (.inr (.inl (999))))) := rfl
theorem rz11_405 : mRz 11 405 = some (.inr (.inl (false, mMo_isOpen, 1))) := rfl
theorem rz11_408 : mRz 11 408 = some (.inr (.inl (false, mMo_isHeld, 1))) := rfl
theorem rz11_411 : mRz 11 411 = some (.inr (.inl (false, mMo_isTray, 1))) := rfl
theorem rz11_414 : mRz 11 414 = some (.inr (.inr (.inr (.inl (60))))) := rfl
theorem rz11_416 : mRz 11 416 = some (.inr (.inl (false, mMo_numberOf, 2))) := rfl
theorem rz11_420 : mRz 11 420 = some (.inr (.inr (.inr (.inl (2))))) := rfl
theorem rz11_422 : mRz 11 422 = some (.inr (.inr (.inr (.inl (8))))) := rfl
theorem rz11_424 : mRz 11 424 = some (.inr (.inr (.inr (.inl (40))))) := rfl
theorem rz11_426 : mRz 11 426 = some (.inr (.inr (.inr (.inl (9999))))) := rfl
theorem rz11_428 : mRz 11 428 = some (.inr (.inr (.inr (.inr 4)))) := rfl
theorem rz11_431 : mRz 11 431 = some (.inr (.inr (.inr (.inl (99))))) := rfl
theorem rz11_433 : mRz 11 433 = some (.inr (.inl (false, mMo_makes, 5))) := rfl
theorem rz11_437 : mRz 11 437 = some (.inr (.inl (false, mMo_breaks, 1))) := rfl
theorem rz11_440 : mRz 11 440 = some (.inr (.inl (false, mMo_isWetOven, 1))) := rfl
theorem rz11_443 : mRz 11 443 = some (.inr (.inl (false, mMo_bakes, 1))) := rfl
theorem rz11_446 : mRz 11 446 = some (.inr (.inr (.inr (.inl (9))))) := rfl
theorem rz11_448 : mRz 11 448 = some (.inr (.inl (false, mMo_eats, 2))) := rfl
theorem rz11_451 : mRz 11 451 = some (.inr (.inl (false, mMo_pays, 3))) := rfl
theorem rz11_454 : mRz 11 454 = some (.inl (11, 39)) := rfl
theorem rz11_457 : mRz 11 457 = some (.inr (.inr (.inl (65536)))) := rfl
theorem rz11_458 : mRz 11 458 = some (.inr (.inl (false, mMo_draw, 0))) := rfl
theorem rz11_461 : mRz 11 461 = some (.inl (11, 42)) := rfl
theorem rz11_464 : mRz 11 464 = some (.inl (11, 44)) := rfl
theorem rz11_467 : mRz 11 467 = some (.inr (.inl (false, mMo_waits, 1))) := rfl
theorem rz11_470 : mRz 11 470 = some (.inl (11, 43)) := rfl
theorem rz11_473 : mRz 11 473 = some (.inl (11, 40)) := rfl
theorem rz11_476 : mRz 11 476 = some (.inl (11, 38)) := rfl
theorem rz11_480 : mRz 11 480 = some (.inl (11, 45)) := rfl
theorem rz11_483 : mRz 11 483 = some (.inl (11, 41)) := rfl
theorem rz11_486 : mRz 11 486 = some (.inr (.inl (false, mMo_does, 1))) := rfl
theorem rz11_489 : mRz 11 489 = some (.inr (.inl (false, mMo_isSo, 1))) := rfl
theorem rz11_492 : mRz 11 492 = some (.inr (.inl (false, mMo_doAll, 2))) := rfl
theorem rz11_495 : mRz 11 495 = some (.inr (.inl (false, mMo_doOne, 1))) := rfl
theorem rz11_498 : mRz 11 498 = some (.inr (.inl (false, mMo_lives, 1))) := rfl
theorem rz11_501 : mRz 11 501 = some (.inl (11, 37)) := rfl
theorem rz11_504 : mRz 11 504 = some (.inr (.inr (.inr (.inl (4))))) := rfl
theorem rz11_506 : mRz 11 506 = some (.inr (.inr (.inr (.inl (20))))) := rfl
theorem rz11_508 : mRz 11 508 = some (.inl (11, 23)) := rfl
theorem rz12_13 : mRz 12 13 = some (.inr (.inl (false, mPb_status, 0))) := rfl
theorem rz12_17 : mRz 12 17 = some (.inr (.inl (false, mMo_status, 0))) := rfl
theorem rz12_18 : mRz 12 18 = some (.inr (.inl (false, mPb_top, 0))) := rfl
theorem rz12_22 : mRz 12 22 = some (.inr (.inl (false, mMo_top, 0))) := rfl
theorem rz12_23 : mRz 12 23 = some (.inr (.inl (false, mPb_bottom, 0))) := rfl
theorem rz12_26 : mRz 12 26 = some (.inr (.inl (false, mMo_bottom, 0))) := rfl
theorem rz12_27 : mRz 12 27 = some (.inr (.inl (false, mPb_tray, 3))) := rfl
theorem rz12_31 : mRz 12 31 = some (.inr (.inl (false, mMo_tray, 3))) := rfl
theorem rz12_32 : mRz 12 32 = some (.inr (.inr (.inr (.inl (4294967295))))) := rfl
theorem rz12_34 : mRz 12 34 = some (.inr (.inl (false, mPb_write, 3))) := rfl
theorem rz12_38 : mRz 12 38 = some (.inr (.inl (false, mMo_write, 3))) := rfl
theorem rz12_39 : mRz 12 39 = some (.inr (.inl (false, mPb_read, 2))) := rfl
theorem rz12_43 : mRz 12 43 = some (.inr (.inl (false, mMo_read, 2))) := rfl
theorem rz12_44 : mRz 12 44 = some (.inr (.inl (false, mPb_pour, 5))) := rfl
theorem rz12_48 : mRz 12 48 = some (.inr (.inl (false, mMo_pour, 5))) := rfl
theorem rz12_49 : mRz 12 49 = some (.inr (.inl (false, mPb_feed, 5))) := rfl
theorem rz12_53 : mRz 12 53 = some (.inr (.inl (false, mMo_feed, 5))) := rfl
theorem rz12_54 : mRz 12 54 = some (.inr (.inl (false, mPb_town, 1))) := rfl
theorem rz12_58 : mRz 12 58 = some (.inr (.inl (false, mMo_town, 1))) := rfl
theorem rz12_59 : mRz 12 59 = some (.inr (.inl (false, mPb_days, 1))) := rfl
theorem rz12_62 : mRz 12 62 = some (.inr (.inl (false, mMo_days, 1))) := rfl
theorem rz12_63 : mRz 12 63 = some (.inr (.inl (false, mPb_fault, 1))) := rfl
theorem rz12_66 : mRz 12 66 = some (.inr (.inl (false, mMo_fault, 1))) := rfl
theorem rz12_67 : mRz 12 67 = some (.inr (.inl (false, mPb_many, 1))) := rfl
theorem rz12_70 : mRz 12 70 = some (.inr (.inl (false, mMo_many, 1))) := rfl
theorem rz12_71 : mRz 12 71 = some (.inr (.inl (false, mPb_person, 2))) := rfl
theorem rz12_75 : mRz 12 75 = some (.inr (.inl (false, mMo_person, 2))) := rfl
theorem rz12_76 : mRz 12 76 = some (.inr (.inl (false, mPb_loaf, 2))) := rfl
theorem rz12_79 : mRz 12 79 = some (.inr (.inl (false, mMo_loaf, 2))) := rfl
theorem rz12_80 : mRz 12 80 = some (.inr (.inl (false, mPb_promise, 2))) := rfl
theorem rz12_83 : mRz 12 83 = some (.inr (.inl (false, mMo_promise, 2))) := rfl
theorem rz12_84 : mRz 12 84 = some (.inr (.inl (false, mPb_holds, 2))) := rfl
theorem rz12_87 : mRz 12 87 = some (.inr (.inl (false, mMo_holds, 2))) := rfl
theorem rz12_88 : mRz 12 88 = some (.inr (.inl (false, mPb_deep, 1))) := rfl
theorem rz12_91 : mRz 12 91 = some (.inr (.inl (false, mMo_deep, 1))) := rfl
theorem rz12_92 : mRz 12 92 = some (.inr (.inl (false, mPb_first, 3))) := rfl
theorem rz12_96 : mRz 12 96 = some (.inr (.inl (false, mMo_first, 3))) := rfl
theorem rz12_97 : mRz 12 97 = some (.inr (.inl (false, mPb_line, 2))) := rfl
theorem rz12_100 : mRz 12 100 = some (.inr (.inl (false, mMo_line, 2))) := rfl
theorem rz12_101 : mRz 12 101 = some (.inr (.inl (false, mPb_whose, 3))) := rfl
theorem rz12_105 : mRz 12 105 = some (.inr (.inl (false, mMo_whose, 3))) := rfl
theorem rz12_106 : mRz 12 106 = some (.inr (.inl (false, mPb_depth, 1))) := rfl
theorem rz12_109 : mRz 12 109 = some (.inr (.inl (false, mMo_depth, 1))) := rfl
theorem rz12_110 : mRz 12 110 = some (.inr (.inl (false, mPb_between, 2))) := rfl
theorem rz12_113 : mRz 12 113 = some (.inr (.inl (false, mMo_between, 2))) := rfl
theorem rz12_114 : mRz 12 114 = some (.inr (.inl (false, mPb_gets, 3))) := rfl
theorem rz12_117 : mRz 12 117 = some (.inr (.inl (false, mMo_gets, 3))) := rfl
theorem rz12_118 : mRz 12 118 = some (.inr (.inl (false, mPb_shame, 2))) := rfl
theorem rz12_122 : mRz 12 122 = some (.inr (.inl (false, mMo_shame, 2))) := rfl
theorem rz12_123 : mRz 12 123 = some (.inr (.inl (false, mPb_mean, 3))) := rfl
theorem rz12_126 : mRz 12 126 = some (.inr (.inl (false, mMo_mean, 3))) := rfl
theorem rz12_127 : mRz 12 127 = some (.inr (.inl (false, mPb_net, 1))) := rfl
theorem rz12_130 : mRz 12 130 = some (.inr (.inl (false, mMo_net, 1))) := rfl
theorem rz12_131 : mRz 12 131 = some (.inr (.inl (false, mPb_handOvers, 0))) := rfl
theorem rz12_134 : mRz 12 134 = some (.inr (.inl (false, mMo_handOvers, 0))) := rfl
theorem rz12_135 : mRz 12 135 = some (.inr (.inl (false, mPb_ring, 0))) := rfl
theorem rz12_138 : mRz 12 138 = some (.inr (.inl (false, mMo_ring, 0))) := rfl
theorem rz12_139 : mRz 12 139 = some (.inr (.inl (false, mPb_ringAt, 1))) := rfl
theorem rz12_142 : mRz 12 142 = some (.inr (.inl (false, mMo_ringAt, 1))) := rfl
theorem rz12_143 : mRz 12 143 = some (.inr (.inl (false, mPb_owing, 1))) := rfl
theorem rz12_146 : mRz 12 146 = some (.inr (.inl (false, mMo_owing, 1))) := rfl
theorem rz12_147 : mRz 12 147 = some (.inr (.inl (false, mPb_saved, 3))) := rfl
theorem rz12_150 : mRz 12 150 = some (.inr (.inl (false, mMo_saved, 3))) := rfl
theorem rz12_151 : mRz 12 151 = some (.inr (.inl (false, mPb_faces, 0))) := rfl
theorem rz12_154 : mRz 12 154 = some (.inr (.inl (false, mMo_faces, 0))) := rfl
theorem rz12_155 : mRz 12 155 = some (.inr (.inl (false, mPb_keeps, 3))) := rfl
theorem rz12_158 : mRz 12 158 = some (.inr (.inl (false, mMo_keeps, 3))) := rfl
theorem rz12_159 : mRz 12 159 = some (.inr (.inl (false, mPb_burst, 0))) := rfl
theorem rz12_162 : mRz 12 162 = some (.inr (.inl (false, mMo_burst, 0))) := rfl
theorem rz12_163 : mRz 12 163 = some (.inr (.inl (false, mPb_cuts, 5))) := rfl
theorem rz12_166 : mRz 12 166 = some (.inr (.inl (false, mMo_cuts, 5))) := rfl
theorem rz12_167 : mRz 12 167 = some (.inr (.inl (false, mPb_auction, 3))) := rfl
theorem rz12_170 : mRz 12 170 = some (.inr (.inl (false, mMo_auction, 3))) := rfl
theorem rz12_171 : mRz 12 171 = some (.inr (.inl (false, mPb_make, 5))) := rfl
theorem rz12_174 : mRz 12 174 = some (.inr (.inl (false, mMo_make, 5))) := rfl
theorem rz12_175 : mRz 12 175 = some (.inr (.inl (false, mPb_letGo, 1))) := rfl
theorem rz12_179 : mRz 12 179 = some (.inr (.inl (false, mMo_letGo, 1))) := rfl
theorem rz12_180 : mRz 12 180 = some (.inr (.inl (false, mPb_bake, 1))) := rfl
theorem rz12_183 : mRz 12 183 = some (.inr (.inl (false, mMo_bake, 1))) := rfl
theorem rz12_184 : mRz 12 184 = some (.inr (.inl (false, mPb_pass, 1))) := rfl
theorem rz12_187 : mRz 12 187 = some (.inr (.inl (false, mMo_pass, 1))) := rfl
theorem rz12_188 : mRz 12 188 = some (.inr (.inl (false, mPb_eat, 2))) := rfl
theorem rz12_191 : mRz 12 191 = some (.inr (.inl (false, mMo_eat, 2))) := rfl
theorem rz12_192 : mRz 12 192 = some (.inr (.inl (false, mPb_pay, 3))) := rfl
theorem rz12_195 : mRz 12 195 = some (.inr (.inl (false, mMo_pay, 3))) := rfl
theorem rz12_196 : mRz 12 196 = some (.inr (.inl (false, mPb_live, 1))) := rfl
theorem rz12_199 : mRz 12 199 = some (.inr (.inl (false, mMo_live, 1))) := rfl
theorem rz12_200 : mRz 12 200 = some (.inr (.inl (false, mPb_lived, 1))) := rfl
theorem rz12_203 : mRz 12 203 = some (.inr (.inl (false, mMo_lived, 1))) := rfl
theorem rz12_204 : mRz 12 204 = some (.inr (.inl (false, mPb_odds, 4))) := rfl
theorem rz12_208 : mRz 12 208 = some (.inr (.inl (false, mMo_odds, 4))) := rfl
theorem rz12_209 : mRz 12 209 = some (.inr (.inl (false, mPb_mark, 0))) := rfl
theorem rz12_212 : mRz 12 212 = some (.inr (.inl (false, mMo_mark, 0))) := rfl
theorem rz12_213 : mRz 12 213 = some (.inr (.inl (false, mPb_back, 0))) := rfl
theorem rz12_216 : mRz 12 216 = some (.inr (.inl (false, mMo_back, 0))) := rfl
def isT (t : Nat) : Prop := t = 10 ∨ t = 35 ∨ t = 91 ∨ t = 116 ∨ t = 141
def isH (h : Nat) : Prop := h = 61 ∨ h = 74 ∨ h = 83
def isV (v : Nat) : Prop := v = 73 ∨ v = 82
theorem shT_0 {t : Nat} (hb : isT t) : mS0[t]? = some (5, 8, [t + 3, t + 5, t + 14, t + 17, t + 18, t + 19, t + 20, t + 21, t + 22, t + 23, t + 24, t + 25, t + 26, 0, 0, 0, 0, 0, 0]) := by
  rcases hb with rfl | rfl | rfl | rfl | rfl <;> rfl
theorem shT_1 {t : Nat} (hb : isT t) : mS0[t + 1]? = some (5, 2, [t + 4]) := by
  rcases hb with rfl | rfl | rfl | rfl | rfl <;> rfl
theorem shT_2 {t : Nat} (hb : isT t) : mS0[t + 2]? = some (3, 20, []) := by
  rcases hb with rfl | rfl | rfl | rfl | rfl <;> rfl
theorem shT_3 {t : Nat} (hb : isT t) : mS0[t + 3]? = some (5, 4, [t + 6, t + 7, t + 8, t + 9, t + 10, t + 11, t + 12, t + 13, 0]) := by
  rcases hb with rfl | rfl | rfl | rfl | rfl <;> rfl
theorem shT_4 {t : Nat} (hb : isT t) : mS0[t + 4]? = some (0, 40, []) := by
  rcases hb with rfl | rfl | rfl | rfl | rfl <;> rfl
theorem shT_5 {t : Nat} (hb : isT t) : mS0[t + 5]? = some (0, 40, []) := by
  rcases hb with rfl | rfl | rfl | rfl | rfl <;> rfl
theorem shT_6 {t : Nat} (hb : isT t) : mS0[t + 6]? = some (0, 40, []) := by
  rcases hb with rfl | rfl | rfl | rfl | rfl <;> rfl
theorem shT_7 {t : Nat} (hb : isT t) : mS0[t + 7]? = some (0, 40, []) := by
  rcases hb with rfl | rfl | rfl | rfl | rfl <;> rfl
theorem shT_8 {t : Nat} (hb : isT t) : mS0[t + 8]? = some (0, 40, []) := by
  rcases hb with rfl | rfl | rfl | rfl | rfl <;> rfl
theorem shT_9 {t : Nat} (hb : isT t) : mS0[t + 9]? = some (2, 40, []) := by
  rcases hb with rfl | rfl | rfl | rfl | rfl <;> rfl
theorem shT_10 {t : Nat} (hb : isT t) : mS0[t + 10]? = some (0, 40, []) := by
  rcases hb with rfl | rfl | rfl | rfl | rfl <;> rfl
theorem shT_11 {t : Nat} (hb : isT t) : mS0[t + 11]? = some (0, 8, []) := by
  rcases hb with rfl | rfl | rfl | rfl | rfl <;> rfl
theorem shT_12 {t : Nat} (hb : isT t) : mS0[t + 12]? = some (5, 0, [t + 15, t + 16, 0, 0, 0, 0]) := by
  rcases hb with rfl | rfl | rfl | rfl | rfl <;> rfl
theorem shT_13 {t : Nat} (hb : isT t) : mS0[t + 13]? = some (0, 420, []) := by
  rcases hb with rfl | rfl | rfl | rfl | rfl <;> rfl
theorem shT_14 {t : Nat} (hb : isT t) : mS0[t + 14]? = some (0, 3, []) := by
  rcases hb with rfl | rfl | rfl | rfl | rfl <;> rfl
theorem shT_15 {t : Nat} (hb : isT t) : mS0[t + 15]? = some (0, 8, []) := by
  rcases hb with rfl | rfl | rfl | rfl | rfl <;> rfl
theorem shT_16 {t : Nat} (hb : isT t) : mS0[t + 16]? = some (0, 8, []) := by
  rcases hb with rfl | rfl | rfl | rfl | rfl <;> rfl
theorem shT_17 {t : Nat} (hb : isT t) : mS0[t + 17]? = some (0, 8, []) := by
  rcases hb with rfl | rfl | rfl | rfl | rfl <;> rfl
theorem shT_18 {t : Nat} (hb : isT t) : mS0[t + 18]? = some (0, 4, []) := by
  rcases hb with rfl | rfl | rfl | rfl | rfl <;> rfl
theorem shT_19 {t : Nat} (hb : isT t) : mS0[t + 19]? = some (0, 8, []) := by
  rcases hb with rfl | rfl | rfl | rfl | rfl <;> rfl
theorem shT_20 {t : Nat} (hb : isT t) : mS0[t + 20]? = some (0, 8, []) := by
  rcases hb with rfl | rfl | rfl | rfl | rfl <;> rfl
theorem shT_21 {t : Nat} (hb : isT t) : mS0[t + 21]? = some (0, 8, []) := by
  rcases hb with rfl | rfl | rfl | rfl | rfl <;> rfl
theorem shT_22 {t : Nat} (hb : isT t) : mS0[t + 22]? = some (0, 8, []) := by
  rcases hb with rfl | rfl | rfl | rfl | rfl <;> rfl
theorem shT_23 {t : Nat} (hb : isT t) : mS0[t + 23]? = some (0, 8, []) := by
  rcases hb with rfl | rfl | rfl | rfl | rfl <;> rfl
theorem shT_24 {t : Nat} (hb : isT t) : mS0[t + 24]? = some (0, 8, []) := by
  rcases hb with rfl | rfl | rfl | rfl | rfl <;> rfl
theorem shH_0 {h : Nat} (hb : isH h) : mS0[h]? = some (5, 5, [h + 3, h + 4, h + 5, h + 6, h + 7, h + 8, 0]) := by
  rcases hb with rfl | rfl | rfl <;> rfl
theorem shH_1 {h : Nat} (hb : isH h) : mS0[h + 1]? = some (0, 8, []) := by
  rcases hb with rfl | rfl | rfl <;> rfl
theorem shH_2 {h : Nat} (hb : isH h) : mS0[h + 2]? = some (0, 8, []) := by
  rcases hb with rfl | rfl | rfl <;> rfl
theorem shH_3 {h : Nat} (hb : isH h) : mS0[h + 3]? = some (0, 8, []) := by
  rcases hb with rfl | rfl | rfl <;> rfl
theorem shH_4 {h : Nat} (hb : isH h) : mS0[h + 4]? = some (0, 8, []) := by
  rcases hb with rfl | rfl | rfl <;> rfl
theorem shH_5 {h : Nat} (hb : isH h) : mS0[h + 5]? = some (0, 8, []) := by
  rcases hb with rfl | rfl | rfl <;> rfl
theorem shH_6 {h : Nat} (hb : isH h) : mS0[h + 6]? = some (0, 8, []) := by
  rcases hb with rfl | rfl | rfl <;> rfl
theorem shV_0 {v : Nat} (hb : isV v) : mS0[v]? = some (5, 1, [v + 3, v + 10, 0, 0, 0, 0, 0, 0, 0]) := by
  rcases hb with rfl | rfl <;> rfl
theorem shV_1 {v : Nat} (hb : isV v) : mS0[v + 1]? = some (5, 5, [v + 4, v + 5, v + 6, v + 7, v + 8, v + 9, 0]) := by
  rcases hb with rfl | rfl <;> rfl
theorem shV_2 {v : Nat} (hb : isV v) : mS0[v + 2]? = some (0, 8, []) := by
  rcases hb with rfl | rfl <;> rfl
theorem shV_3 {v : Nat} (hb : isV v) : mS0[v + 3]? = some (0, 8, []) := by
  rcases hb with rfl | rfl <;> rfl
theorem shV_4 {v : Nat} (hb : isV v) : mS0[v + 4]? = some (0, 8, []) := by
  rcases hb with rfl | rfl <;> rfl
theorem shV_5 {v : Nat} (hb : isV v) : mS0[v + 5]? = some (0, 8, []) := by
  rcases hb with rfl | rfl <;> rfl
theorem shV_6 {v : Nat} (hb : isV v) : mS0[v + 6]? = some (0, 8, []) := by
  rcases hb with rfl | rfl <;> rfl
theorem shV_7 {v : Nat} (hb : isV v) : mS0[v + 7]? = some (0, 8, []) := by
  rcases hb with rfl | rfl <;> rfl
theorem shV_8 {v : Nat} (hb : isV v) : mS0[v + 8]? = some (0, 60, []) := by
  rcases hb with rfl | rfl <;> rfl
theorem ltT {t k : Nat} (hb : isT t) (hk : k < 25) : t + k < 1000 := by
  rcases hb with rfl | rfl | rfl | rfl | rfl <;> omega
theorem ltT0 {t : Nat} (hb : isT t) : t < 1000 := by
  rcases hb with rfl | rfl | rfl | rfl | rfl <;> omega
theorem ltH {h k : Nat} (hb : isH h) (hk : k < 7) : h + k < 1000 := by
  rcases hb with rfl | rfl | rfl <;> omega
theorem ltH0 {h : Nat} (hb : isH h) : h < 1000 := by
  rcases hb with rfl | rfl | rfl <;> omega
theorem ltV {v k : Nat} (hb : isV v) (hk : k < 9) : v + k < 1000 := by
  rcases hb with rfl | rfl <;> omega
theorem ltV0 {v : Nat} (hb : isV v) : v < 1000 := by
  rcases hb with rfl | rfl <;> omega
theorem isV_H {v : Nat} (h : isV v) : isH (v + 1) := by
  rcases h with rfl | rfl <;> simp [isH]
theorem aLen_of {E : mEn} {a t n : Nat} {fl : List Nat} (h : mS0[a]? = some (t, n, fl)) (ha : a < 1000) (ht : t < 5) : aLen E a = some n := by
  unfold aLen
  rw [if_neg (by omega), if_neg (by omega), h]
  simp [ht]
theorem aLen_0 {E : mEn} : aLen E 1000 = some E.1 := rfl
theorem ite_c {q : Prop} [Decidable q] {a b : Prop} (h : a = b) : (if q then False else a) = (if q then False else b) := by rw [h]
theorem sw_lt {x : Int32} {lo hi : Nat} (hh : hi < 2 ^ 31) (hne : ∀ k : Nat, lo ≤ k → k ≤ hi → x ≠ nI k) : x.toInt < (lo : Int) ∨ (hi : Int) < x.toInt := by
  by_cases h0 : x.toInt < (lo : Int)
  · exact Or.inl h0
  · right
    have hx : ¬ x < 0 := fun q => h0 (by have q2 : x.toInt < 0 := by simpa [Int32.lt_iff_toInt_lt] using q
                                         omega)
    obtain ⟨j, hj, rfl⟩ := nI_of hx
    rw [nI_toInt hj] at h0 ⊢
    have : ¬ j ≤ hi := fun q => hne j (by omega) q rfl
    omega
theorem sw_cs (x : Int32) (lo hi : Nat) : (∃ k : Nat, lo ≤ k ∧ k ≤ hi ∧ x = nI k) ∨ ∀ k : Nat, lo ≤ k → k ≤ hi → x ≠ nI k := by
  by_cases h : ∃ k : Nat, lo ≤ k ∧ k ≤ hi ∧ x = nI k
  · exact Or.inl h
  · exact Or.inr (fun k hl hk e => h ⟨k, hl, hk, e⟩)
section SW
variable {E : mEn} {d : Nat} {M : mM} {Q : mPost} {i : Nat} {ls st : List Value} {σ : mSt}
theorem w_swK {d0 : Int} {lo hi : Nat} {offs : Array Int} {len t : Nat} (k : Nat) {off : Int} (hd : decode (mC M) i = .ok (.tableswitch d0 (lo : Int) (hi : Int) offs, len)) (hl : lo ≤ k) (hk : k ≤ hi) (hh : k < 2 ^ 31) (ho : offs[k - lo]? = some off) (h : (i : Int) + off = (t : Int)) : WP E d M i ls (.int (nI k) :: st) σ Q = WP E d M t ls st σ Q := w_nx hd (by
  simp only [stpI, doSw, nI_toInt hh]
  rw [if_neg (by omega), show ((k : Int) - (lo : Int)).toNat = k - lo by omega, ho]
  dsimp only
  rw [jp_eq h]
  rfl)
theorem w_swD {d0 : Int} {lo hi : Nat} {offs : Array Int} {len t : Nat} {x : Int32} (hd : decode (mC M) i = .ok (.tableswitch d0 (lo : Int) (hi : Int) offs, len)) (hh : hi < 2 ^ 31) (hne : ∀ k : Nat, lo ≤ k → k ≤ hi → x ≠ nI k) (h : (i : Int) + d0 = (t : Int)) : WP E d M i ls (.int x :: st) σ Q = WP E d M t ls st σ Q := w_nx hd (by
  simp only [stpI, doSw]
  rw [if_pos (sw_lt hh hne), jp_eq h]
  rfl)
theorem w_lk {d0 : Int} {ps : Array (Int × Int)} {len t : Nat} {off : Int} {x : Int32} (hd : decode (mC M) i = .ok (.lookupswitch d0 ps, len)) (hp : (ps.toList.zip (ps.toList.drop 1)).all (fun (a, next) => a.1 < next.1) = true) (ho : Op.lookupswitch.offset ps.toList d0 x.toInt = off) (h : (i : Int) + off = (t : Int)) : WP E d M i ls (.int x :: st) σ Q = WP E d M t ls st σ Q := w_nx hd (by
  simp only [stpI, doLk]
  rw [if_pos hp, ho, jp_eq h]
  rfl)
end SW
def cpOk (sp dp n : Int32) (na nb : Nat) : Bool := !decide (sp < 0) && !decide (dp < 0) && !decide (n < 0) && decide (sp.toNatClampNeg + n.toNatClampNeg ≤ na) && decide (dp.toNatClampNeg + n.toNatClampNeg ≤ nb)
section CP
variable {E : mEn} {d : Nat} {M : mM} {Q : mPost} {i : Nat} {ls st : List Value} {σ : mSt} {idx a b na nb : Nat} {sp dp n : Int32} {fa fb : List Nat}
theorem cpOk_of (h : cpOk sp dp n na nb = true) : ¬ sp < 0 ∧ ¬ dp < 0 ∧ ¬ n < 0 ∧ sp.toNatClampNeg + n.toNatClampNeg ≤ na ∧ dp.toNatClampNeg + n.toNatClampNeg ≤ nb := by
  simpa [cpOk, and_assoc] using h
theorem w_cpi (hd : decode (mC M) i = .ok (.invokestatic idx, 3)) (hz : mRz (mK M) idx = some (.inr (.inr (.inr (.inr 0))))) (ha : mS0[a]? = some (0, na, fa)) (hb : mS0[b]? = some (0, nb, fb)) (h : cpOk sp dp n na nb = true) (hc : cats st ≤ 8) : WP E d M i ls (.int n :: .int dp :: .ref b :: .int sp :: .ref a :: st) σ Q = WP E d M (i + 3) ls st (cpI σ a b sp.toNatClampNeg dp.toNatClampNeg n.toNatClampNeg) Q := by
  obtain ⟨h1, h2, h3, h4, h5⟩ := cpOk_of h
  refine w_nx hd ?_
  simp only [stpI, doStat, if_true, hz, doCopy, h1, h2, h3, ha, hb, h4, h5, false_or, Nat.not_lt.mpr hc, if_false, and_self]
  rfl
theorem w_cpz (hd : decode (mC M) i = .ok (.invokestatic idx, 3)) (hz : mRz (mK M) idx = some (.inr (.inr (.inr (.inr 0))))) (ha : mS0[a]? = some (2, na, fa)) (hb : mS0[b]? = some (2, nb, fb)) (h : cpOk sp dp n na nb = true) (hf : ∀ j, j < n.toNatClampNeg → fits .boolean (.int (σ.1 a (sp.toNatClampNeg + j))) = true) (hc : cats st ≤ 8) : WP E d M i ls (.int n :: .int dp :: .ref b :: .int sp :: .ref a :: st) σ Q = WP E d M (i + 3) ls st (cpI σ a b sp.toNatClampNeg dp.toNatClampNeg n.toNatClampNeg) Q := by
  obtain ⟨h1, h2, h3, h4, h5⟩ := cpOk_of h
  refine w_nx hd ?_
  have h6 : (List.range n.toNatClampNeg).all (fun j => fits .boolean (.int (σ.1 a (sp.toNatClampNeg + j)))) = true := List.all_eq_true.mpr (fun j hj => hf j (List.mem_range.mp hj))
  simp only [stpI, doStat, if_true, hz, doCopy, h1, h2, h3, ha, hb, h4, h5, false_or, Nat.not_lt.mpr hc, if_false, and_self, show ¬ ((2 : Nat) = 0) by decide, h6]
  rfl
theorem w_cpl (hd : decode (mC M) i = .ok (.invokestatic idx, 3)) (hz : mRz (mK M) idx = some (.inr (.inr (.inr (.inr 0))))) (ha : mS0[a]? = some (3, na, fa)) (hb : mS0[b]? = some (3, nb, fb)) (h : cpOk sp dp n na nb = true) (hc : cats st ≤ 8) : WP E d M i ls (.int n :: .int dp :: .ref b :: .int sp :: .ref a :: st) σ Q = WP E d M (i + 3) ls st (cpL σ a b sp.toNatClampNeg dp.toNatClampNeg n.toNatClampNeg) Q := by
  obtain ⟨h1, h2, h3, h4, h5⟩ := cpOk_of h
  refine w_nx hd ?_
  simp only [stpI, doStat, if_true, hz, doCopy, h1, h2, h3, ha, hb, h4, h5, false_or, Nat.not_lt.mpr hc, if_false, and_self, show ¬ ((3 : Nat) = 0) by decide, show ¬ ((3 : Nat) = 2) by decide]
  rfl
end CP
end
section
theorem dTr_exists_0 : decode (mC mTr_exists) 0 = .ok (.iload_n 1, 1) := by decide +kernel
theorem dTr_exists_1 : decode (mC mTr_exists) 1 = .ok (.ifCond .lt (12), 3) := by decide +kernel
theorem dTr_exists_4 : decode (mC mTr_exists) 4 = .ok (.iload_n 1, 1) := by decide +kernel
theorem dTr_exists_5 : decode (mC mTr_exists) 5 = .ok (.iconst (4), 1) := by decide +kernel
theorem dTr_exists_6 : decode (mC mTr_exists) 6 = .ok (.if_icmp .ge (7), 3) := by decide +kernel
theorem dTr_exists_9 : decode (mC mTr_exists) 9 = .ok (.iconst (1), 1) := by decide +kernel
theorem dTr_exists_10 : decode (mC mTr_exists) 10 = .ok (.goto (4), 3) := by decide +kernel
theorem dTr_exists_13 : decode (mC mTr_exists) 13 = .ok (.iconst (0), 1) := by decide +kernel
theorem dTr_exists_14 : decode (mC mTr_exists) 14 = .ok (.ireturn, 1) := by decide +kernel
theorem bTr_exists_0 {E : mEn} {d : Nat} {σ : mSt} {Q : mPost} {a1 : Int32} : WP E d mTr_exists 0 [.ref 1, .int a1] [] σ Q = (if a1 < 0 then WP E d mTr_exists 13 [.ref 1, .int a1] [] σ Q else WP E d mTr_exists 4 [.ref 1, .int a1] [] σ Q) := (w_iload_n dTr_exists_0 rfl).trans (w_iflt (t := 13) dTr_exists_1 (by decide))
theorem bTr_exists_4 {E : mEn} {d : Nat} {σ : mSt} {Q : mPost} {a1 : Int32} : WP E d mTr_exists 4 [.ref 1, .int a1] [] σ Q = (if (nI 4) ≤ a1 then WP E d mTr_exists 13 [.ref 1, .int a1] [] σ Q else WP E d mTr_exists 9 [.ref 1, .int a1] [] σ Q) := (w_iload_n dTr_exists_4 rfl).trans ((w_iconst (v := (nI 4)) dTr_exists_5 rfl).trans (w_icmpge (t := 13) dTr_exists_6 (by decide)))
theorem bTr_exists_9 {E : mEn} {d : Nat} {σ : mSt} {Q : mPost} {a1 : Int32} : WP E d mTr_exists 9 [.ref 1, .int a1] [] σ Q = WP E d mTr_exists 14 [.ref 1, .int a1] [.int 1] σ Q := (w_iconst (v := 1) dTr_exists_9 rfl).trans (w_goto (t := 14) dTr_exists_10 (by decide))
theorem bTr_exists_13 {E : mEn} {d : Nat} {σ : mSt} {Q : mPost} {a1 : Int32} : WP E d mTr_exists 13 [.ref 1, .int a1] [] σ Q = WP E d mTr_exists 14 [.ref 1, .int a1] [.int 0] σ Q := w_iconst (v := 0) dTr_exists_13 rfl
theorem bTr_exists_14 {E : mEn} {d : Nat} {σ : mSt} {Q : mPost} {a1 : Int32} {s0 : Int32} (hz0 : s0 = 0 ∨ s0 = 1) : WP E d mTr_exists 14 [.ref 1, .int a1] [.int s0] σ Q = Q (some (.int s0)) σ := w_zret dTr_exists_14 rfl hz0
theorem dTr_isSort_0 : decode (mC mTr_isSort) 0 = .ok (.iload_n 1, 1) := by decide +kernel
theorem dTr_isSort_1 : decode (mC mTr_isSort) 1 = .ok (.ifCond .lt (12), 3) := by decide +kernel
theorem dTr_isSort_4 : decode (mC mTr_isSort) 4 = .ok (.iload_n 1, 1) := by decide +kernel
theorem dTr_isSort_5 : decode (mC mTr_isSort) 5 = .ok (.iconst (4), 1) := by decide +kernel
theorem dTr_isSort_6 : decode (mC mTr_isSort) 6 = .ok (.if_icmp .ge (7), 3) := by decide +kernel
theorem dTr_isSort_9 : decode (mC mTr_isSort) 9 = .ok (.iconst (1), 1) := by decide +kernel
theorem dTr_isSort_10 : decode (mC mTr_isSort) 10 = .ok (.goto (4), 3) := by decide +kernel
theorem dTr_isSort_13 : decode (mC mTr_isSort) 13 = .ok (.iconst (0), 1) := by decide +kernel
theorem dTr_isSort_14 : decode (mC mTr_isSort) 14 = .ok (.ireturn, 1) := by decide +kernel
theorem bTr_isSort_0 {E : mEn} {d : Nat} {σ : mSt} {Q : mPost} {a1 : Int32} : WP E d mTr_isSort 0 [.ref 1, .int a1] [] σ Q = (if a1 < 0 then WP E d mTr_isSort 13 [.ref 1, .int a1] [] σ Q else WP E d mTr_isSort 4 [.ref 1, .int a1] [] σ Q) := (w_iload_n dTr_isSort_0 rfl).trans (w_iflt (t := 13) dTr_isSort_1 (by decide))
theorem bTr_isSort_4 {E : mEn} {d : Nat} {σ : mSt} {Q : mPost} {a1 : Int32} : WP E d mTr_isSort 4 [.ref 1, .int a1] [] σ Q = (if (nI 4) ≤ a1 then WP E d mTr_isSort 13 [.ref 1, .int a1] [] σ Q else WP E d mTr_isSort 9 [.ref 1, .int a1] [] σ Q) := (w_iload_n dTr_isSort_4 rfl).trans ((w_iconst (v := (nI 4)) dTr_isSort_5 rfl).trans (w_icmpge (t := 13) dTr_isSort_6 (by decide)))
theorem bTr_isSort_9 {E : mEn} {d : Nat} {σ : mSt} {Q : mPost} {a1 : Int32} : WP E d mTr_isSort 9 [.ref 1, .int a1] [] σ Q = WP E d mTr_isSort 14 [.ref 1, .int a1] [.int 1] σ Q := (w_iconst (v := 1) dTr_isSort_9 rfl).trans (w_goto (t := 14) dTr_isSort_10 (by decide))
theorem bTr_isSort_13 {E : mEn} {d : Nat} {σ : mSt} {Q : mPost} {a1 : Int32} : WP E d mTr_isSort 13 [.ref 1, .int a1] [] σ Q = WP E d mTr_isSort 14 [.ref 1, .int a1] [.int 0] σ Q := w_iconst (v := 0) dTr_isSort_13 rfl
theorem bTr_isSort_14 {E : mEn} {d : Nat} {σ : mSt} {Q : mPost} {a1 : Int32} {s0 : Int32} (hz0 : s0 = 0 ∨ s0 = 1) : WP E d mTr_isSort 14 [.ref 1, .int a1] [.int s0] σ Q = Q (some (.int s0)) σ := w_zret dTr_isSort_14 rfl hz0
theorem dTr_lay_0 : decode (mC mTr_lay) 0 = .ok (.aload_n 0, 1) := by decide +kernel
theorem dTr_lay_1 : decode (mC mTr_lay) 1 = .ok (.iload_n 1, 1) := by decide +kernel
theorem dTr_lay_2 : decode (mC mTr_lay) 2 = .ok (.invokevirtual 28, 3) := by decide +kernel
theorem dTr_lay_5 : decode (mC mTr_lay) 5 = .ok (.ifCond .eq (13), 3) := by decide +kernel
theorem dTr_lay_8 : decode (mC mTr_lay) 8 = .ok (.iload_n 3, 1) := by decide +kernel
theorem dTr_lay_9 : decode (mC mTr_lay) 9 = .ok (.ifCond .lt (9), 3) := by decide +kernel
theorem dTr_lay_12 : decode (mC mTr_lay) 12 = .ok (.iload_n 3, 1) := by decide +kernel
theorem dTr_lay_13 : decode (mC mTr_lay) 13 = .ok (.bipush (60), 2) := by decide +kernel
theorem dTr_lay_15 : decode (mC mTr_lay) 15 = .ok (.if_icmp .le (4), 3) := by decide +kernel
theorem dTr_lay_18 : decode (mC mTr_lay) 18 = .ok (.return_, 1) := by decide +kernel
theorem dTr_lay_19 : decode (mC mTr_lay) 19 = .ok (.aload_n 0, 1) := by decide +kernel
theorem dTr_lay_20 : decode (mC mTr_lay) 20 = .ok (.getfield 15, 3) := by decide +kernel
theorem dTr_lay_23 : decode (mC mTr_lay) 23 = .ok (.iload_n 1, 1) := by decide +kernel
theorem dTr_lay_24 : decode (mC mTr_lay) 24 = .ok (.iload_n 2, 1) := by decide +kernel
theorem dTr_lay_25 : decode (mC mTr_lay) 25 = .ok (.iastore, 1) := by decide +kernel
theorem dTr_lay_26 : decode (mC mTr_lay) 26 = .ok (.aload_n 0, 1) := by decide +kernel
theorem dTr_lay_27 : decode (mC mTr_lay) 27 = .ok (.getfield 19, 3) := by decide +kernel
theorem dTr_lay_30 : decode (mC mTr_lay) 30 = .ok (.iload_n 1, 1) := by decide +kernel
theorem dTr_lay_31 : decode (mC mTr_lay) 31 = .ok (.iload_n 3, 1) := by decide +kernel
theorem dTr_lay_32 : decode (mC mTr_lay) 32 = .ok (.iastore, 1) := by decide +kernel
theorem dTr_lay_33 : decode (mC mTr_lay) 33 = .ok (.iconst (0), 1) := by decide +kernel
theorem dTr_lay_34 : decode (mC mTr_lay) 34 = .ok (.istore 4, 2) := by decide +kernel
theorem dTr_lay_36 : decode (mC mTr_lay) 36 = .ok (.iload 4, 2) := by decide +kernel
theorem dTr_lay_38 : decode (mC mTr_lay) 38 = .ok (.iload_n 3, 1) := by decide +kernel
theorem dTr_lay_39 : decode (mC mTr_lay) 39 = .ok (.if_icmp .ge (22), 3) := by decide +kernel
theorem dTr_lay_42 : decode (mC mTr_lay) 42 = .ok (.aload_n 0, 1) := by decide +kernel
theorem dTr_lay_43 : decode (mC mTr_lay) 43 = .ok (.getfield 11, 3) := by decide +kernel
theorem dTr_lay_46 : decode (mC mTr_lay) 46 = .ok (.iload_n 1, 1) := by decide +kernel
theorem dTr_lay_47 : decode (mC mTr_lay) 47 = .ok (.bipush (60), 2) := by decide +kernel
theorem dTr_lay_49 : decode (mC mTr_lay) 49 = .ok (.imul, 1) := by decide +kernel
theorem dTr_lay_50 : decode (mC mTr_lay) 50 = .ok (.iload 4, 2) := by decide +kernel
theorem dTr_lay_52 : decode (mC mTr_lay) 52 = .ok (.iadd, 1) := by decide +kernel
theorem dTr_lay_53 : decode (mC mTr_lay) 53 = .ok (.lconst 0, 1) := by decide +kernel
theorem dTr_lay_54 : decode (mC mTr_lay) 54 = .ok (.lastore, 1) := by decide +kernel
theorem dTr_lay_55 : decode (mC mTr_lay) 55 = .ok (.iinc 4 (1), 3) := by decide +kernel
theorem dTr_lay_58 : decode (mC mTr_lay) 58 = .ok (.goto (-22), 3) := by decide +kernel
theorem dTr_lay_61 : decode (mC mTr_lay) 61 = .ok (.return_, 1) := by decide +kernel
theorem bTr_lay_0 {E : mEn} {d : Nat} {σ : mSt} {Q : mPost} {a1 : Int32} {a2 : Int32} {a3 : Int32} {u4 : Value} : WP E (d + 1) mTr_lay 0 [.ref 1, .int a1, .int a2, .int a3, u4] [] σ Q = WP E d mTr_exists 0 [.ref 1, .int a1] [] σ (fun r σ' => WP E (d + 1) mTr_lay 5 [.ref 1, .int a1, .int a2, .int a3, u4] (r.toList ++ []) σ' Q) := (w_aload_n dTr_lay_0 rfl).trans ((w_iload_n dTr_lay_1 rfl).trans (w_virt (vs := [.int a1]) (st' := []) (es := [.ref 1, .int a1]) dTr_lay_2 rz9_28 rfl sh_1 rfl rfl rfl (Nat.le_of_ble_eq_true rfl) (Nat.le_of_ble_eq_true rfl) rfl))
theorem bTr_lay_5 {E : mEn} {d : Nat} {σ : mSt} {Q : mPost} {a1 : Int32} {a2 : Int32} {a3 : Int32} {u4 : Value} {s0 : Int32} : WP E d mTr_lay 5 [.ref 1, .int a1, .int a2, .int a3, u4] [.int s0] σ Q = (if s0 = 0 then WP E d mTr_lay 18 [.ref 1, .int a1, .int a2, .int a3, u4] [] σ Q else WP E d mTr_lay 8 [.ref 1, .int a1, .int a2, .int a3, u4] [] σ Q) := w_ifeq (t := 18) dTr_lay_5 (by decide)
theorem bTr_lay_8 {E : mEn} {d : Nat} {σ : mSt} {Q : mPost} {a1 : Int32} {a2 : Int32} {a3 : Int32} {u4 : Value} : WP E d mTr_lay 8 [.ref 1, .int a1, .int a2, .int a3, u4] [] σ Q = (if a3 < 0 then WP E d mTr_lay 18 [.ref 1, .int a1, .int a2, .int a3, u4] [] σ Q else WP E d mTr_lay 12 [.ref 1, .int a1, .int a2, .int a3, u4] [] σ Q) := (w_iload_n dTr_lay_8 rfl).trans (w_iflt (t := 18) dTr_lay_9 (by decide))
theorem bTr_lay_12 {E : mEn} {d : Nat} {σ : mSt} {Q : mPost} {a1 : Int32} {a2 : Int32} {a3 : Int32} {u4 : Value} : WP E d mTr_lay 12 [.ref 1, .int a1, .int a2, .int a3, u4] [] σ Q = (if a3 ≤ (nI 60) then WP E d mTr_lay 19 [.ref 1, .int a1, .int a2, .int a3, u4] [] σ Q else WP E d mTr_lay 18 [.ref 1, .int a1, .int a2, .int a3, u4] [] σ Q) := (w_iload_n dTr_lay_12 rfl).trans ((w_bipush (v := (nI 60)) dTr_lay_13 rfl).trans (w_icmple (t := 19) dTr_lay_15 (by decide)))
theorem bTr_lay_18 {E : mEn} {d : Nat} {σ : mSt} {Q : mPost} {a1 : Int32} {a2 : Int32} {a3 : Int32} {u4 : Value} : WP E d mTr_lay 18 [.ref 1, .int a1, .int a2, .int a3, u4] [] σ Q = Q none σ := w_vret dTr_lay_18 rfl
theorem bTr_lay_19 {E : mEn} {d : Nat} {σ : mSt} {Q : mPost} {a1 : Int32} {a2 : Int32} {a3 : Int32} {u4 : Value} : WP E d mTr_lay 19 [.ref 1, .int a1, .int a2, .int a3, u4] [] σ Q = (if mOut a1 4 = true then False else (if mOut a1 4 = true then False else WP E d mTr_lay 36 [.ref 1, .int a1, .int a2, .int a3, .int 0] [] (sI (sI σ 3 a1.toNatClampNeg a2) 4 a1.toNatClampNeg a3) Q)) := (w_aload_n dTr_lay_19 rfl).trans ((w_getr (r := 3) dTr_lay_20 rz9_15 sh_1 rfl).trans ((w_iload_n dTr_lay_23 rfl).trans ((w_iload_n dTr_lay_24 rfl).trans ((w_iast dTr_lay_25 sh_3).trans (ite_c ((w_aload_n dTr_lay_26 rfl).trans ((w_getr (r := 4) dTr_lay_27 rz9_19 sh_1 rfl).trans ((w_iload_n dTr_lay_30 rfl).trans ((w_iload_n dTr_lay_31 rfl).trans ((w_iast dTr_lay_32 sh_4).trans (ite_c ((w_iconst (v := 0) dTr_lay_33 rfl).trans (w_istore (ls' := [.ref 1, .int a1, .int a2, .int a3, .int 0]) dTr_lay_34 (Nat.le_of_ble_eq_true rfl) rfl)))))))))))))
theorem bTr_lay_36 {E : mEn} {d : Nat} {σ : mSt} {Q : mPost} {a1 : Int32} {a2 : Int32} {a3 : Int32} {a4 : Int32} : WP E d mTr_lay 36 [.ref 1, .int a1, .int a2, .int a3, .int a4] [] σ Q = (if a3 ≤ a4 then WP E d mTr_lay 61 [.ref 1, .int a1, .int a2, .int a3, .int a4] [] σ Q else WP E d mTr_lay 42 [.ref 1, .int a1, .int a2, .int a3, .int a4] [] σ Q) := (w_iload dTr_lay_36 rfl).trans ((w_iload_n dTr_lay_38 rfl).trans (w_icmpge (t := 61) dTr_lay_39 (by decide)))
theorem bTr_lay_42 {E : mEn} {d : Nat} {σ : mSt} {Q : mPost} {a1 : Int32} {a2 : Int32} {a3 : Int32} {a4 : Int32} : WP E d mTr_lay 42 [.ref 1, .int a1, .int a2, .int a3, .int a4] [] σ Q = (if mOut ((a1 * (nI 60)) + a4) 240 = true then False else WP E d mTr_lay 36 [.ref 1, .int a1, .int a2, .int a3, .int (a4 + 1)] [] (sL σ 2 ((a1 * (nI 60)) + a4).toNatClampNeg 0) Q) := (w_aload_n dTr_lay_42 rfl).trans ((w_getr (r := 2) dTr_lay_43 rz9_11 sh_1 rfl).trans ((w_iload_n dTr_lay_46 rfl).trans ((w_bipush (v := (nI 60)) dTr_lay_47 rfl).trans ((w_imul dTr_lay_49).trans ((w_iload dTr_lay_50 rfl).trans ((w_iadd dTr_lay_52).trans ((w_lconst (v := 0) dTr_lay_53 rfl).trans ((w_last dTr_lay_54 sh_2).trans (ite_c ((w_iinc (v := 1) (ls' := [.ref 1, .int a1, .int a2, .int a3, .int (a4 + 1)]) dTr_lay_55 rfl rfl rfl).trans (w_goto (t := 36) dTr_lay_58 (by decide))))))))))))
theorem bTr_lay_61 {E : mEn} {d : Nat} {σ : mSt} {Q : mPost} {a1 : Int32} {a2 : Int32} {a3 : Int32} {a4 : Int32} : WP E d mTr_lay 61 [.ref 1, .int a1, .int a2, .int a3, .int a4] [] σ Q = Q none σ := w_vret dTr_lay_61 rfl
theorem dTr_whyNot_0 : decode (mC mTr_whyNot) 0 = .ok (.aload_n 0, 1) := by decide +kernel
theorem dTr_whyNot_1 : decode (mC mTr_whyNot) 1 = .ok (.iload_n 1, 1) := by decide +kernel
theorem dTr_whyNot_2 : decode (mC mTr_whyNot) 2 = .ok (.invokevirtual 28, 3) := by decide +kernel
theorem dTr_whyNot_5 : decode (mC mTr_whyNot) 5 = .ok (.ifCond .ne (5), 3) := by decide +kernel
theorem dTr_whyNot_8 : decode (mC mTr_whyNot) 8 = .ok (.iconst (1), 1) := by decide +kernel
theorem dTr_whyNot_9 : decode (mC mTr_whyNot) 9 = .ok (.ireturn, 1) := by decide +kernel
theorem dTr_whyNot_10 : decode (mC mTr_whyNot) 10 = .ok (.aload_n 0, 1) := by decide +kernel
theorem dTr_whyNot_11 : decode (mC mTr_whyNot) 11 = .ok (.iload_n 1, 1) := by decide +kernel
theorem dTr_whyNot_12 : decode (mC mTr_whyNot) 12 = .ok (.invokevirtual 32, 3) := by decide +kernel
theorem dTr_whyNot_15 : decode (mC mTr_whyNot) 15 = .ok (.ifCond .eq (5), 3) := by decide +kernel
theorem dTr_whyNot_18 : decode (mC mTr_whyNot) 18 = .ok (.iconst (3), 1) := by decide +kernel
theorem dTr_whyNot_19 : decode (mC mTr_whyNot) 19 = .ok (.ireturn, 1) := by decide +kernel
theorem dTr_whyNot_20 : decode (mC mTr_whyNot) 20 = .ok (.aload_n 0, 1) := by decide +kernel
theorem dTr_whyNot_21 : decode (mC mTr_whyNot) 21 = .ok (.iload_n 1, 1) := by decide +kernel
theorem dTr_whyNot_22 : decode (mC mTr_whyNot) 22 = .ok (.iload_n 2, 1) := by decide +kernel
theorem dTr_whyNot_23 : decode (mC mTr_whyNot) 23 = .ok (.iconst (1), 1) := by decide +kernel
theorem dTr_whyNot_24 : decode (mC mTr_whyNot) 24 = .ok (.invokevirtual 39, 3) := by decide +kernel
theorem dTr_whyNot_27 : decode (mC mTr_whyNot) 27 = .ok (.ifCond .eq (7), 3) := by decide +kernel
theorem dTr_whyNot_30 : decode (mC mTr_whyNot) 30 = .ok (.iconst (0), 1) := by decide +kernel
theorem dTr_whyNot_31 : decode (mC mTr_whyNot) 31 = .ok (.goto (4), 3) := by decide +kernel
theorem dTr_whyNot_34 : decode (mC mTr_whyNot) 34 = .ok (.iconst (4), 1) := by decide +kernel
theorem dTr_whyNot_35 : decode (mC mTr_whyNot) 35 = .ok (.ireturn, 1) := by decide +kernel
theorem bTr_whyNot_0 {E : mEn} {d : Nat} {σ : mSt} {Q : mPost} {a1 : Int32} {a2 : Int32} : WP E (d + 1) mTr_whyNot 0 [.ref 1, .int a1, .int a2] [] σ Q = WP E d mTr_exists 0 [.ref 1, .int a1] [] σ (fun r σ' => WP E (d + 1) mTr_whyNot 5 [.ref 1, .int a1, .int a2] (r.toList ++ []) σ' Q) := (w_aload_n dTr_whyNot_0 rfl).trans ((w_iload_n dTr_whyNot_1 rfl).trans (w_virt (vs := [.int a1]) (st' := []) (es := [.ref 1, .int a1]) dTr_whyNot_2 rz9_28 rfl sh_1 rfl rfl rfl (Nat.le_of_ble_eq_true rfl) (Nat.le_of_ble_eq_true rfl) rfl))
theorem bTr_whyNot_5 {E : mEn} {d : Nat} {σ : mSt} {Q : mPost} {a1 : Int32} {a2 : Int32} {s0 : Int32} : WP E d mTr_whyNot 5 [.ref 1, .int a1, .int a2] [.int s0] σ Q = (if ¬ s0 = 0 then WP E d mTr_whyNot 10 [.ref 1, .int a1, .int a2] [] σ Q else WP E d mTr_whyNot 8 [.ref 1, .int a1, .int a2] [] σ Q) := w_ifne (t := 10) dTr_whyNot_5 (by decide)
theorem bTr_whyNot_8 {E : mEn} {d : Nat} {σ : mSt} {Q : mPost} {a1 : Int32} {a2 : Int32} : WP E d mTr_whyNot 8 [.ref 1, .int a1, .int a2] [] σ Q = Q (some (.int 1)) σ := (w_iconst (v := 1) dTr_whyNot_8 rfl).trans (w_iret dTr_whyNot_9 rfl)
theorem bTr_whyNot_10 {E : mEn} {d : Nat} {σ : mSt} {Q : mPost} {a1 : Int32} {a2 : Int32} : WP E (d + 1) mTr_whyNot 10 [.ref 1, .int a1, .int a2] [] σ Q = WP E d mTr_isMissing 0 [.ref 1, .int a1] [] σ (fun r σ' => WP E (d + 1) mTr_whyNot 15 [.ref 1, .int a1, .int a2] (r.toList ++ []) σ' Q) := (w_aload_n dTr_whyNot_10 rfl).trans ((w_iload_n dTr_whyNot_11 rfl).trans (w_virt (vs := [.int a1]) (st' := []) (es := [.ref 1, .int a1]) dTr_whyNot_12 rz9_32 rfl sh_1 rfl rfl rfl (Nat.le_of_ble_eq_true rfl) (Nat.le_of_ble_eq_true rfl) rfl))
theorem bTr_whyNot_15 {E : mEn} {d : Nat} {σ : mSt} {Q : mPost} {a1 : Int32} {a2 : Int32} {s0 : Int32} : WP E d mTr_whyNot 15 [.ref 1, .int a1, .int a2] [.int s0] σ Q = (if s0 = 0 then WP E d mTr_whyNot 20 [.ref 1, .int a1, .int a2] [] σ Q else WP E d mTr_whyNot 18 [.ref 1, .int a1, .int a2] [] σ Q) := w_ifeq (t := 20) dTr_whyNot_15 (by decide)
theorem bTr_whyNot_18 {E : mEn} {d : Nat} {σ : mSt} {Q : mPost} {a1 : Int32} {a2 : Int32} : WP E d mTr_whyNot 18 [.ref 1, .int a1, .int a2] [] σ Q = Q (some (.int (nI 3))) σ := (w_iconst (v := (nI 3)) dTr_whyNot_18 rfl).trans (w_iret dTr_whyNot_19 rfl)
theorem bTr_whyNot_20 {E : mEn} {d : Nat} {σ : mSt} {Q : mPost} {a1 : Int32} {a2 : Int32} : WP E (d + 1) mTr_whyNot 20 [.ref 1, .int a1, .int a2] [] σ Q = WP E d mTr_hasRow 0 [.ref 1, .int a1, .int a2, .int 1] [] σ (fun r σ' => WP E (d + 1) mTr_whyNot 27 [.ref 1, .int a1, .int a2] (r.toList ++ []) σ' Q) := (w_aload_n dTr_whyNot_20 rfl).trans ((w_iload_n dTr_whyNot_21 rfl).trans ((w_iload_n dTr_whyNot_22 rfl).trans ((w_iconst (v := 1) dTr_whyNot_23 rfl).trans (w_virt (vs := [.int a1, .int a2, .int 1]) (st' := []) (es := [.ref 1, .int a1, .int a2, .int 1]) dTr_whyNot_24 rz9_39 rfl sh_1 rfl rfl rfl (Nat.le_of_ble_eq_true rfl) (Nat.le_of_ble_eq_true rfl) rfl))))
theorem bTr_whyNot_27 {E : mEn} {d : Nat} {σ : mSt} {Q : mPost} {a1 : Int32} {a2 : Int32} {s0 : Int32} : WP E d mTr_whyNot 27 [.ref 1, .int a1, .int a2] [.int s0] σ Q = (if s0 = 0 then WP E d mTr_whyNot 34 [.ref 1, .int a1, .int a2] [] σ Q else WP E d mTr_whyNot 30 [.ref 1, .int a1, .int a2] [] σ Q) := w_ifeq (t := 34) dTr_whyNot_27 (by decide)
theorem bTr_whyNot_30 {E : mEn} {d : Nat} {σ : mSt} {Q : mPost} {a1 : Int32} {a2 : Int32} : WP E d mTr_whyNot 30 [.ref 1, .int a1, .int a2] [] σ Q = WP E d mTr_whyNot 35 [.ref 1, .int a1, .int a2] [.int 0] σ Q := (w_iconst (v := 0) dTr_whyNot_30 rfl).trans (w_goto (t := 35) dTr_whyNot_31 (by decide))
theorem bTr_whyNot_34 {E : mEn} {d : Nat} {σ : mSt} {Q : mPost} {a1 : Int32} {a2 : Int32} : WP E d mTr_whyNot 34 [.ref 1, .int a1, .int a2] [] σ Q = WP E d mTr_whyNot 35 [.ref 1, .int a1, .int a2] [.int (nI 4)] σ Q := w_iconst (v := (nI 4)) dTr_whyNot_34 rfl
theorem bTr_whyNot_35 {E : mEn} {d : Nat} {σ : mSt} {Q : mPost} {a1 : Int32} {a2 : Int32} {s0 : Int32} : WP E d mTr_whyNot 35 [.ref 1, .int a1, .int a2] [.int s0] σ Q = Q (some (.int s0)) σ := w_iret dTr_whyNot_35 rfl
theorem dTr_isMissing_0 : decode (mC mTr_isMissing) 0 = .ok (.aload_n 0, 1) := by decide +kernel
theorem dTr_isMissing_1 : decode (mC mTr_isMissing) 1 = .ok (.iload_n 1, 1) := by decide +kernel
theorem dTr_isMissing_2 : decode (mC mTr_isMissing) 2 = .ok (.invokevirtual 28, 3) := by decide +kernel
theorem dTr_isMissing_5 : decode (mC mTr_isMissing) 5 = .ok (.ifCond .eq (12), 3) := by decide +kernel
theorem dTr_isMissing_8 : decode (mC mTr_isMissing) 8 = .ok (.aload_n 0, 1) := by decide +kernel
theorem dTr_isMissing_9 : decode (mC mTr_isMissing) 9 = .ok (.getfield 19, 3) := by decide +kernel
theorem dTr_isMissing_12 : decode (mC mTr_isMissing) 12 = .ok (.iload_n 1, 1) := by decide +kernel
theorem dTr_isMissing_13 : decode (mC mTr_isMissing) 13 = .ok (.iaload, 1) := by decide +kernel
theorem dTr_isMissing_14 : decode (mC mTr_isMissing) 14 = .ok (.ifCond .ge (7), 3) := by decide +kernel
theorem dTr_isMissing_17 : decode (mC mTr_isMissing) 17 = .ok (.iconst (1), 1) := by decide +kernel
theorem dTr_isMissing_18 : decode (mC mTr_isMissing) 18 = .ok (.goto (4), 3) := by decide +kernel
theorem dTr_isMissing_21 : decode (mC mTr_isMissing) 21 = .ok (.iconst (0), 1) := by decide +kernel
theorem dTr_isMissing_22 : decode (mC mTr_isMissing) 22 = .ok (.ireturn, 1) := by decide +kernel
theorem bTr_isMissing_0 {E : mEn} {d : Nat} {σ : mSt} {Q : mPost} {a1 : Int32} : WP E (d + 1) mTr_isMissing 0 [.ref 1, .int a1] [] σ Q = WP E d mTr_exists 0 [.ref 1, .int a1] [] σ (fun r σ' => WP E (d + 1) mTr_isMissing 5 [.ref 1, .int a1] (r.toList ++ []) σ' Q) := (w_aload_n dTr_isMissing_0 rfl).trans ((w_iload_n dTr_isMissing_1 rfl).trans (w_virt (vs := [.int a1]) (st' := []) (es := [.ref 1, .int a1]) dTr_isMissing_2 rz9_28 rfl sh_1 rfl rfl rfl (Nat.le_of_ble_eq_true rfl) (Nat.le_of_ble_eq_true rfl) rfl))
theorem bTr_isMissing_5 {E : mEn} {d : Nat} {σ : mSt} {Q : mPost} {a1 : Int32} {s0 : Int32} : WP E d mTr_isMissing 5 [.ref 1, .int a1] [.int s0] σ Q = (if s0 = 0 then WP E d mTr_isMissing 17 [.ref 1, .int a1] [] σ Q else WP E d mTr_isMissing 8 [.ref 1, .int a1] [] σ Q) := w_ifeq (t := 17) dTr_isMissing_5 (by decide)
theorem bTr_isMissing_8 {E : mEn} {d : Nat} {σ : mSt} {Q : mPost} {a1 : Int32} : WP E d mTr_isMissing 8 [.ref 1, .int a1] [] σ Q = (if mOut a1 4 = true then False else (if 0 ≤ (σ.1 4 a1.toNatClampNeg) then WP E d mTr_isMissing 21 [.ref 1, .int a1] [] σ Q else WP E d mTr_isMissing 17 [.ref 1, .int a1] [] σ Q)) := (w_aload_n dTr_isMissing_8 rfl).trans ((w_getr (r := 4) dTr_isMissing_9 rz9_19 sh_1 rfl).trans ((w_iload_n dTr_isMissing_12 rfl).trans ((w_iald dTr_isMissing_13 sh_4 (by decide)).trans (ite_c (w_ifge (t := 21) dTr_isMissing_14 (by decide))))))
theorem bTr_isMissing_17 {E : mEn} {d : Nat} {σ : mSt} {Q : mPost} {a1 : Int32} : WP E d mTr_isMissing 17 [.ref 1, .int a1] [] σ Q = WP E d mTr_isMissing 22 [.ref 1, .int a1] [.int 1] σ Q := (w_iconst (v := 1) dTr_isMissing_17 rfl).trans (w_goto (t := 22) dTr_isMissing_18 (by decide))
theorem bTr_isMissing_21 {E : mEn} {d : Nat} {σ : mSt} {Q : mPost} {a1 : Int32} : WP E d mTr_isMissing 21 [.ref 1, .int a1] [] σ Q = WP E d mTr_isMissing 22 [.ref 1, .int a1] [.int 0] σ Q := w_iconst (v := 0) dTr_isMissing_21 rfl
theorem bTr_isMissing_22 {E : mEn} {d : Nat} {σ : mSt} {Q : mPost} {a1 : Int32} {s0 : Int32} (hz0 : s0 = 0 ∨ s0 = 1) : WP E d mTr_isMissing 22 [.ref 1, .int a1] [.int s0] σ Q = Q (some (.int s0)) σ := w_zret dTr_isMissing_22 rfl hz0
theorem dTr_hasRow_0 : decode (mC mTr_hasRow) 0 = .ok (.iload_n 2, 1) := by decide +kernel
theorem dTr_hasRow_1 : decode (mC mTr_hasRow) 1 = .ok (.ifCond .lt (22), 3) := by decide +kernel
theorem dTr_hasRow_4 : decode (mC mTr_hasRow) 4 = .ok (.iload_n 3, 1) := by decide +kernel
theorem dTr_hasRow_5 : decode (mC mTr_hasRow) 5 = .ok (.ifCond .lt (18), 3) := by decide +kernel
theorem dTr_hasRow_8 : decode (mC mTr_hasRow) 8 = .ok (.iload_n 2, 1) := by decide +kernel
theorem dTr_hasRow_9 : decode (mC mTr_hasRow) 9 = .ok (.aload_n 0, 1) := by decide +kernel
theorem dTr_hasRow_10 : decode (mC mTr_hasRow) 10 = .ok (.iload_n 1, 1) := by decide +kernel
theorem dTr_hasRow_11 : decode (mC mTr_hasRow) 11 = .ok (.invokevirtual 35, 3) := by decide +kernel
theorem dTr_hasRow_14 : decode (mC mTr_hasRow) 14 = .ok (.iload_n 3, 1) := by decide +kernel
theorem dTr_hasRow_15 : decode (mC mTr_hasRow) 15 = .ok (.isub, 1) := by decide +kernel
theorem dTr_hasRow_16 : decode (mC mTr_hasRow) 16 = .ok (.if_icmp .gt (7), 3) := by decide +kernel
theorem dTr_hasRow_19 : decode (mC mTr_hasRow) 19 = .ok (.iconst (1), 1) := by decide +kernel
theorem dTr_hasRow_20 : decode (mC mTr_hasRow) 20 = .ok (.goto (4), 3) := by decide +kernel
theorem dTr_hasRow_23 : decode (mC mTr_hasRow) 23 = .ok (.iconst (0), 1) := by decide +kernel
theorem dTr_hasRow_24 : decode (mC mTr_hasRow) 24 = .ok (.ireturn, 1) := by decide +kernel
theorem bTr_hasRow_0 {E : mEn} {d : Nat} {σ : mSt} {Q : mPost} {a1 : Int32} {a2 : Int32} {a3 : Int32} : WP E d mTr_hasRow 0 [.ref 1, .int a1, .int a2, .int a3] [] σ Q = (if a2 < 0 then WP E d mTr_hasRow 23 [.ref 1, .int a1, .int a2, .int a3] [] σ Q else WP E d mTr_hasRow 4 [.ref 1, .int a1, .int a2, .int a3] [] σ Q) := (w_iload_n dTr_hasRow_0 rfl).trans (w_iflt (t := 23) dTr_hasRow_1 (by decide))
theorem bTr_hasRow_4 {E : mEn} {d : Nat} {σ : mSt} {Q : mPost} {a1 : Int32} {a2 : Int32} {a3 : Int32} : WP E d mTr_hasRow 4 [.ref 1, .int a1, .int a2, .int a3] [] σ Q = (if a3 < 0 then WP E d mTr_hasRow 23 [.ref 1, .int a1, .int a2, .int a3] [] σ Q else WP E d mTr_hasRow 8 [.ref 1, .int a1, .int a2, .int a3] [] σ Q) := (w_iload_n dTr_hasRow_4 rfl).trans (w_iflt (t := 23) dTr_hasRow_5 (by decide))
theorem bTr_hasRow_8 {E : mEn} {d : Nat} {σ : mSt} {Q : mPost} {a1 : Int32} {a2 : Int32} {a3 : Int32} : WP E (d + 1) mTr_hasRow 8 [.ref 1, .int a1, .int a2, .int a3] [] σ Q = WP E d mTr_lengthOf 0 [.ref 1, .int a1] [] σ (fun r σ' => WP E (d + 1) mTr_hasRow 14 [.ref 1, .int a1, .int a2, .int a3] (r.toList ++ [.int a2]) σ' Q) := (w_iload_n dTr_hasRow_8 rfl).trans ((w_aload_n dTr_hasRow_9 rfl).trans ((w_iload_n dTr_hasRow_10 rfl).trans (w_virt (vs := [.int a1]) (st' := [.int a2]) (es := [.ref 1, .int a1]) dTr_hasRow_11 rz9_35 rfl sh_1 rfl rfl rfl (Nat.le_of_ble_eq_true rfl) (Nat.le_of_ble_eq_true rfl) rfl)))
theorem bTr_hasRow_14 {E : mEn} {d : Nat} {σ : mSt} {Q : mPost} {a1 : Int32} {a2 : Int32} {a3 : Int32} {s0 : Int32} {s1 : Int32} : WP E d mTr_hasRow 14 [.ref 1, .int a1, .int a2, .int a3] [.int s0, .int s1] σ Q = (if (s0 - a3) < s1 then WP E d mTr_hasRow 23 [.ref 1, .int a1, .int a2, .int a3] [] σ Q else WP E d mTr_hasRow 19 [.ref 1, .int a1, .int a2, .int a3] [] σ Q) := (w_iload_n dTr_hasRow_14 rfl).trans ((w_isub dTr_hasRow_15).trans (w_icmpgt (t := 23) dTr_hasRow_16 (by decide)))
theorem bTr_hasRow_19 {E : mEn} {d : Nat} {σ : mSt} {Q : mPost} {a1 : Int32} {a2 : Int32} {a3 : Int32} : WP E d mTr_hasRow 19 [.ref 1, .int a1, .int a2, .int a3] [] σ Q = WP E d mTr_hasRow 24 [.ref 1, .int a1, .int a2, .int a3] [.int 1] σ Q := (w_iconst (v := 1) dTr_hasRow_19 rfl).trans (w_goto (t := 24) dTr_hasRow_20 (by decide))
theorem bTr_hasRow_23 {E : mEn} {d : Nat} {σ : mSt} {Q : mPost} {a1 : Int32} {a2 : Int32} {a3 : Int32} : WP E d mTr_hasRow 23 [.ref 1, .int a1, .int a2, .int a3] [] σ Q = WP E d mTr_hasRow 24 [.ref 1, .int a1, .int a2, .int a3] [.int 0] σ Q := w_iconst (v := 0) dTr_hasRow_23 rfl
theorem bTr_hasRow_24 {E : mEn} {d : Nat} {σ : mSt} {Q : mPost} {a1 : Int32} {a2 : Int32} {a3 : Int32} {s0 : Int32} (hz0 : s0 = 0 ∨ s0 = 1) : WP E d mTr_hasRow 24 [.ref 1, .int a1, .int a2, .int a3] [.int s0] σ Q = Q (some (.int s0)) σ := w_zret dTr_hasRow_24 rfl hz0
theorem dTr_lengthOf_0 : decode (mC mTr_lengthOf) 0 = .ok (.aload_n 0, 1) := by decide +kernel
theorem dTr_lengthOf_1 : decode (mC mTr_lengthOf) 1 = .ok (.iload_n 1, 1) := by decide +kernel
theorem dTr_lengthOf_2 : decode (mC mTr_lengthOf) 2 = .ok (.invokevirtual 32, 3) := by decide +kernel
theorem dTr_lengthOf_5 : decode (mC mTr_lengthOf) 5 = .ok (.ifCond .eq (7), 3) := by decide +kernel
theorem dTr_lengthOf_8 : decode (mC mTr_lengthOf) 8 = .ok (.iconst (0), 1) := by decide +kernel
theorem dTr_lengthOf_9 : decode (mC mTr_lengthOf) 9 = .ok (.goto (9), 3) := by decide +kernel
theorem dTr_lengthOf_12 : decode (mC mTr_lengthOf) 12 = .ok (.aload_n 0, 1) := by decide +kernel
theorem dTr_lengthOf_13 : decode (mC mTr_lengthOf) 13 = .ok (.getfield 19, 3) := by decide +kernel
theorem dTr_lengthOf_16 : decode (mC mTr_lengthOf) 16 = .ok (.iload_n 1, 1) := by decide +kernel
theorem dTr_lengthOf_17 : decode (mC mTr_lengthOf) 17 = .ok (.iaload, 1) := by decide +kernel
theorem dTr_lengthOf_18 : decode (mC mTr_lengthOf) 18 = .ok (.ireturn, 1) := by decide +kernel
theorem bTr_lengthOf_0 {E : mEn} {d : Nat} {σ : mSt} {Q : mPost} {a1 : Int32} : WP E (d + 1) mTr_lengthOf 0 [.ref 1, .int a1] [] σ Q = WP E d mTr_isMissing 0 [.ref 1, .int a1] [] σ (fun r σ' => WP E (d + 1) mTr_lengthOf 5 [.ref 1, .int a1] (r.toList ++ []) σ' Q) := (w_aload_n dTr_lengthOf_0 rfl).trans ((w_iload_n dTr_lengthOf_1 rfl).trans (w_virt (vs := [.int a1]) (st' := []) (es := [.ref 1, .int a1]) dTr_lengthOf_2 rz9_32 rfl sh_1 rfl rfl rfl (Nat.le_of_ble_eq_true rfl) (Nat.le_of_ble_eq_true rfl) rfl))
theorem bTr_lengthOf_5 {E : mEn} {d : Nat} {σ : mSt} {Q : mPost} {a1 : Int32} {s0 : Int32} : WP E d mTr_lengthOf 5 [.ref 1, .int a1] [.int s0] σ Q = (if s0 = 0 then WP E d mTr_lengthOf 12 [.ref 1, .int a1] [] σ Q else WP E d mTr_lengthOf 8 [.ref 1, .int a1] [] σ Q) := w_ifeq (t := 12) dTr_lengthOf_5 (by decide)
theorem bTr_lengthOf_8 {E : mEn} {d : Nat} {σ : mSt} {Q : mPost} {a1 : Int32} : WP E d mTr_lengthOf 8 [.ref 1, .int a1] [] σ Q = WP E d mTr_lengthOf 18 [.ref 1, .int a1] [.int 0] σ Q := (w_iconst (v := 0) dTr_lengthOf_8 rfl).trans (w_goto (t := 18) dTr_lengthOf_9 (by decide))
theorem bTr_lengthOf_12 {E : mEn} {d : Nat} {σ : mSt} {Q : mPost} {a1 : Int32} : WP E d mTr_lengthOf 12 [.ref 1, .int a1] [] σ Q = (if mOut a1 4 = true then False else WP E d mTr_lengthOf 18 [.ref 1, .int a1] [.int (σ.1 4 a1.toNatClampNeg)] σ Q) := (w_aload_n dTr_lengthOf_12 rfl).trans ((w_getr (r := 4) dTr_lengthOf_13 rz9_19 sh_1 rfl).trans ((w_iload_n dTr_lengthOf_16 rfl).trans ((w_iald dTr_lengthOf_17 sh_4 (by decide)).trans (ite_c (rfl)))))
theorem bTr_lengthOf_18 {E : mEn} {d : Nat} {σ : mSt} {Q : mPost} {a1 : Int32} {s0 : Int32} : WP E d mTr_lengthOf 18 [.ref 1, .int a1] [.int s0] σ Q = Q (some (.int s0)) σ := w_iret dTr_lengthOf_18 rfl
theorem dTr_put_0 : decode (mC mTr_put) 0 = .ok (.aload_n 0, 1) := by decide +kernel
theorem dTr_put_1 : decode (mC mTr_put) 1 = .ok (.iload_n 1, 1) := by decide +kernel
theorem dTr_put_2 : decode (mC mTr_put) 2 = .ok (.iload_n 2, 1) := by decide +kernel
theorem dTr_put_3 : decode (mC mTr_put) 3 = .ok (.iconst (1), 1) := by decide +kernel
theorem dTr_put_4 : decode (mC mTr_put) 4 = .ok (.invokevirtual 39, 3) := by decide +kernel
theorem dTr_put_7 : decode (mC mTr_put) 7 = .ok (.ifCond .eq (24), 3) := by decide +kernel
theorem dTr_put_10 : decode (mC mTr_put) 10 = .ok (.aload_n 0, 1) := by decide +kernel
theorem dTr_put_11 : decode (mC mTr_put) 11 = .ok (.getfield 11, 3) := by decide +kernel
theorem dTr_put_14 : decode (mC mTr_put) 14 = .ok (.iload_n 1, 1) := by decide +kernel
theorem dTr_put_15 : decode (mC mTr_put) 15 = .ok (.bipush (60), 2) := by decide +kernel
theorem dTr_put_17 : decode (mC mTr_put) 17 = .ok (.imul, 1) := by decide +kernel
theorem dTr_put_18 : decode (mC mTr_put) 18 = .ok (.iload_n 2, 1) := by decide +kernel
theorem dTr_put_19 : decode (mC mTr_put) 19 = .ok (.iadd, 1) := by decide +kernel
theorem dTr_put_20 : decode (mC mTr_put) 20 = .ok (.aload_n 0, 1) := by decide +kernel
theorem dTr_put_21 : decode (mC mTr_put) 21 = .ok (.getfield 15, 3) := by decide +kernel
theorem dTr_put_24 : decode (mC mTr_put) 24 = .ok (.iload_n 1, 1) := by decide +kernel
theorem dTr_put_25 : decode (mC mTr_put) 25 = .ok (.iaload, 1) := by decide +kernel
theorem dTr_put_26 : decode (mC mTr_put) 26 = .ok (.lload_n 3, 1) := by decide +kernel
theorem dTr_put_27 : decode (mC mTr_put) 27 = .ok (.invokestatic 43, 3) := by decide +kernel
theorem dTr_put_30 : decode (mC mTr_put) 30 = .ok (.lastore, 1) := by decide +kernel
theorem dTr_put_31 : decode (mC mTr_put) 31 = .ok (.return_, 1) := by decide +kernel
theorem bTr_put_0 {E : mEn} {d : Nat} {σ : mSt} {Q : mPost} {a1 : Int32} {a2 : Int32} {j3 : Int64} : WP E (d + 1) mTr_put 0 [.ref 1, .int a1, .int a2, .long j3, uu] [] σ Q = WP E d mTr_hasRow 0 [.ref 1, .int a1, .int a2, .int 1] [] σ (fun r σ' => WP E (d + 1) mTr_put 7 [.ref 1, .int a1, .int a2, .long j3, uu] (r.toList ++ []) σ' Q) := (w_aload_n dTr_put_0 rfl).trans ((w_iload_n dTr_put_1 rfl).trans ((w_iload_n dTr_put_2 rfl).trans ((w_iconst (v := 1) dTr_put_3 rfl).trans (w_virt (vs := [.int a1, .int a2, .int 1]) (st' := []) (es := [.ref 1, .int a1, .int a2, .int 1]) dTr_put_4 rz9_39 rfl sh_1 rfl rfl rfl (Nat.le_of_ble_eq_true rfl) (Nat.le_of_ble_eq_true rfl) rfl))))
theorem bTr_put_7 {E : mEn} {d : Nat} {σ : mSt} {Q : mPost} {a1 : Int32} {a2 : Int32} {j3 : Int64} {s0 : Int32} : WP E d mTr_put 7 [.ref 1, .int a1, .int a2, .long j3, uu] [.int s0] σ Q = (if s0 = 0 then WP E d mTr_put 31 [.ref 1, .int a1, .int a2, .long j3, uu] [] σ Q else WP E d mTr_put 10 [.ref 1, .int a1, .int a2, .long j3, uu] [] σ Q) := w_ifeq (t := 31) dTr_put_7 (by decide)
theorem bTr_put_10 {E : mEn} {d : Nat} {σ : mSt} {Q : mPost} {a1 : Int32} {a2 : Int32} {j3 : Int64} : WP E (d + 1) mTr_put 10 [.ref 1, .int a1, .int a2, .long j3, uu] [] σ Q = (if mOut a1 4 = true then False else WP E d mTr_cutTo 0 [.int (σ.1 3 a1.toNatClampNeg), .long j3, uu] [] σ (fun r σ' => WP E (d + 1) mTr_put 30 [.ref 1, .int a1, .int a2, .long j3, uu] (r.toList ++ [.int ((a1 * (nI 60)) + a2), .ref 2]) σ' Q)) := (w_aload_n dTr_put_10 rfl).trans ((w_getr (r := 2) dTr_put_11 rz9_11 sh_1 rfl).trans ((w_iload_n dTr_put_14 rfl).trans ((w_bipush (v := (nI 60)) dTr_put_15 rfl).trans ((w_imul dTr_put_17).trans ((w_iload_n dTr_put_18 rfl).trans ((w_iadd dTr_put_19).trans ((w_aload_n dTr_put_20 rfl).trans ((w_getr (r := 3) dTr_put_21 rz9_15 sh_1 rfl).trans ((w_iload_n dTr_put_24 rfl).trans ((w_iald dTr_put_25 sh_3 (by decide)).trans (ite_c ((w_lload_n dTr_put_26 rfl).trans (w_stat (vs := [.int (σ.1 3 a1.toNatClampNeg), .long j3]) (st' := [.int ((a1 * (nI 60)) + a2), .ref 2]) (es := [.int (σ.1 3 a1.toNatClampNeg), .long j3, uu]) dTr_put_27 rz9_43 rfl rfl rfl (Nat.le_of_ble_eq_true rfl) (Nat.le_of_ble_eq_true rfl) rfl)))))))))))))
theorem bTr_put_30 {E : mEn} {d : Nat} {σ : mSt} {Q : mPost} {a1 : Int32} {a2 : Int32} {j3 : Int64} {q0 : Int64} {s1 : Int32} : WP E d mTr_put 30 [.ref 1, .int a1, .int a2, .long j3, uu] [.long q0, .int s1, .ref 2] σ Q = (if mOut s1 240 = true then False else WP E d mTr_put 31 [.ref 1, .int a1, .int a2, .long j3, uu] [] (sL σ 2 s1.toNatClampNeg q0) Q) := (w_last dTr_put_30 sh_2).trans (ite_c (rfl))
theorem bTr_put_31 {E : mEn} {d : Nat} {σ : mSt} {Q : mPost} {a1 : Int32} {a2 : Int32} {j3 : Int64} : WP E d mTr_put 31 [.ref 1, .int a1, .int a2, .long j3, uu] [] σ Q = Q none σ := w_vret dTr_put_31 rfl
theorem dTr_cutTo_0 : decode (mC mTr_cutTo) 0 = .ok (.iload_n 0, 1) := by decide +kernel
theorem dTr_cutTo_1 : decode (mC mTr_cutTo) 1 = .ok (.tableswitch (41) 0 2 #[27, 32, 37], 27) := by decide +kernel
theorem dTr_cutTo_28 : decode (mC mTr_cutTo) 28 = .ok (.lload_n 1, 1) := by decide +kernel
theorem dTr_cutTo_29 : decode (mC mTr_cutTo) 29 = .ok (.l2i, 1) := by decide +kernel
theorem dTr_cutTo_30 : decode (mC mTr_cutTo) 30 = .ok (.i2b, 1) := by decide +kernel
theorem dTr_cutTo_31 : decode (mC mTr_cutTo) 31 = .ok (.i2l, 1) := by decide +kernel
theorem dTr_cutTo_32 : decode (mC mTr_cutTo) 32 = .ok (.lreturn, 1) := by decide +kernel
theorem dTr_cutTo_33 : decode (mC mTr_cutTo) 33 = .ok (.lload_n 1, 1) := by decide +kernel
theorem dTr_cutTo_34 : decode (mC mTr_cutTo) 34 = .ok (.l2i, 1) := by decide +kernel
theorem dTr_cutTo_35 : decode (mC mTr_cutTo) 35 = .ok (.i2s, 1) := by decide +kernel
theorem dTr_cutTo_36 : decode (mC mTr_cutTo) 36 = .ok (.i2l, 1) := by decide +kernel
theorem dTr_cutTo_37 : decode (mC mTr_cutTo) 37 = .ok (.lreturn, 1) := by decide +kernel
theorem dTr_cutTo_38 : decode (mC mTr_cutTo) 38 = .ok (.lload_n 1, 1) := by decide +kernel
theorem dTr_cutTo_39 : decode (mC mTr_cutTo) 39 = .ok (.l2i, 1) := by decide +kernel
theorem dTr_cutTo_40 : decode (mC mTr_cutTo) 40 = .ok (.i2l, 1) := by decide +kernel
theorem dTr_cutTo_41 : decode (mC mTr_cutTo) 41 = .ok (.lreturn, 1) := by decide +kernel
theorem dTr_cutTo_42 : decode (mC mTr_cutTo) 42 = .ok (.lload_n 1, 1) := by decide +kernel
theorem dTr_cutTo_43 : decode (mC mTr_cutTo) 43 = .ok (.lreturn, 1) := by decide +kernel
theorem bTr_cutTo_0 {E : mEn} {d : Nat} {σ : mSt} {Q : mPost} {a0 : Int32} {j1 : Int64} : WP E d mTr_cutTo 0 [.int a0, .long j1, uu] [] σ Q = WP E d mTr_cutTo 1 [.int a0, .long j1, uu] [.int a0] σ Q := w_iload_n dTr_cutTo_0 rfl
theorem bTr_cutTo_0_s0 {E : mEn} {d : Nat} {σ : mSt} {Q : mPost} {b0 : Int32} {b1 : Int64} : WP E d mTr_cutTo 1 [.int b0, .long b1, uu] [.int (nI 0)] σ Q = WP E d mTr_cutTo 28 [.int b0, .long b1, uu] [] σ Q := w_swK 0 dTr_cutTo_1 (by decide) (by decide) (by decide) rfl (by decide)
theorem bTr_cutTo_0_s1 {E : mEn} {d : Nat} {σ : mSt} {Q : mPost} {b0 : Int32} {b1 : Int64} : WP E d mTr_cutTo 1 [.int b0, .long b1, uu] [.int (nI 1)] σ Q = WP E d mTr_cutTo 33 [.int b0, .long b1, uu] [] σ Q := w_swK 1 dTr_cutTo_1 (by decide) (by decide) (by decide) rfl (by decide)
theorem bTr_cutTo_0_s2 {E : mEn} {d : Nat} {σ : mSt} {Q : mPost} {b0 : Int32} {b1 : Int64} : WP E d mTr_cutTo 1 [.int b0, .long b1, uu] [.int (nI 2)] σ Q = WP E d mTr_cutTo 38 [.int b0, .long b1, uu] [] σ Q := w_swK 2 dTr_cutTo_1 (by decide) (by decide) (by decide) rfl (by decide)
theorem bTr_cutTo_0_sD {E : mEn} {d : Nat} {σ : mSt} {Q : mPost} {b0 : Int32} {b1 : Int64} {x : Int32} (hne : ∀ k : Nat, 0 ≤ k → k ≤ 2 → x ≠ nI k) : WP E d mTr_cutTo 1 [.int b0, .long b1, uu] [.int x] σ Q = WP E d mTr_cutTo 42 [.int b0, .long b1, uu] [] σ Q := w_swD dTr_cutTo_1 (by decide) hne (by decide)
theorem bTr_cutTo_28 {E : mEn} {d : Nat} {σ : mSt} {Q : mPost} {a0 : Int32} {j1 : Int64} : WP E d mTr_cutTo 28 [.int a0, .long j1, uu] [] σ Q = Q (some (.long (((j1.toInt32).toInt8.toInt32).toInt64))) σ := (w_lload_n dTr_cutTo_28 rfl).trans ((w_l2i dTr_cutTo_29).trans ((w_i2b dTr_cutTo_30).trans ((w_i2l dTr_cutTo_31).trans (w_lret dTr_cutTo_32 rfl))))
theorem bTr_cutTo_33 {E : mEn} {d : Nat} {σ : mSt} {Q : mPost} {a0 : Int32} {j1 : Int64} : WP E d mTr_cutTo 33 [.int a0, .long j1, uu] [] σ Q = Q (some (.long (((j1.toInt32).toInt16.toInt32).toInt64))) σ := (w_lload_n dTr_cutTo_33 rfl).trans ((w_l2i dTr_cutTo_34).trans ((w_i2s dTr_cutTo_35).trans ((w_i2l dTr_cutTo_36).trans (w_lret dTr_cutTo_37 rfl))))
theorem bTr_cutTo_38 {E : mEn} {d : Nat} {σ : mSt} {Q : mPost} {a0 : Int32} {j1 : Int64} : WP E d mTr_cutTo 38 [.int a0, .long j1, uu] [] σ Q = Q (some (.long ((j1.toInt32).toInt64))) σ := (w_lload_n dTr_cutTo_38 rfl).trans ((w_l2i dTr_cutTo_39).trans ((w_i2l dTr_cutTo_40).trans (w_lret dTr_cutTo_41 rfl)))
theorem bTr_cutTo_42 {E : mEn} {d : Nat} {σ : mSt} {Q : mPost} {a0 : Int32} {j1 : Int64} : WP E d mTr_cutTo 42 [.int a0, .long j1, uu] [] σ Q = Q (some (.long j1)) σ := (w_lload_n dTr_cutTo_42 rfl).trans (w_lret dTr_cutTo_43 rfl)
theorem dTr_at_0 : decode (mC mTr_at) 0 = .ok (.aload_n 0, 1) := by decide +kernel
theorem dTr_at_1 : decode (mC mTr_at) 1 = .ok (.iload_n 1, 1) := by decide +kernel
theorem dTr_at_2 : decode (mC mTr_at) 2 = .ok (.iload_n 2, 1) := by decide +kernel
theorem dTr_at_3 : decode (mC mTr_at) 3 = .ok (.iconst (1), 1) := by decide +kernel
theorem dTr_at_4 : decode (mC mTr_at) 4 = .ok (.invokevirtual 39, 3) := by decide +kernel
theorem dTr_at_7 : decode (mC mTr_at) 7 = .ok (.ifCond .eq (17), 3) := by decide +kernel
theorem dTr_at_10 : decode (mC mTr_at) 10 = .ok (.aload_n 0, 1) := by decide +kernel
theorem dTr_at_11 : decode (mC mTr_at) 11 = .ok (.getfield 11, 3) := by decide +kernel
theorem dTr_at_14 : decode (mC mTr_at) 14 = .ok (.iload_n 1, 1) := by decide +kernel
theorem dTr_at_15 : decode (mC mTr_at) 15 = .ok (.bipush (60), 2) := by decide +kernel
theorem dTr_at_17 : decode (mC mTr_at) 17 = .ok (.imul, 1) := by decide +kernel
theorem dTr_at_18 : decode (mC mTr_at) 18 = .ok (.iload_n 2, 1) := by decide +kernel
theorem dTr_at_19 : decode (mC mTr_at) 19 = .ok (.iadd, 1) := by decide +kernel
theorem dTr_at_20 : decode (mC mTr_at) 20 = .ok (.laload, 1) := by decide +kernel
theorem dTr_at_21 : decode (mC mTr_at) 21 = .ok (.goto (4), 3) := by decide +kernel
theorem dTr_at_24 : decode (mC mTr_at) 24 = .ok (.lconst 0, 1) := by decide +kernel
theorem dTr_at_25 : decode (mC mTr_at) 25 = .ok (.lreturn, 1) := by decide +kernel
theorem bTr_at_0 {E : mEn} {d : Nat} {σ : mSt} {Q : mPost} {a1 : Int32} {a2 : Int32} : WP E (d + 1) mTr_at 0 [.ref 1, .int a1, .int a2] [] σ Q = WP E d mTr_hasRow 0 [.ref 1, .int a1, .int a2, .int 1] [] σ (fun r σ' => WP E (d + 1) mTr_at 7 [.ref 1, .int a1, .int a2] (r.toList ++ []) σ' Q) := (w_aload_n dTr_at_0 rfl).trans ((w_iload_n dTr_at_1 rfl).trans ((w_iload_n dTr_at_2 rfl).trans ((w_iconst (v := 1) dTr_at_3 rfl).trans (w_virt (vs := [.int a1, .int a2, .int 1]) (st' := []) (es := [.ref 1, .int a1, .int a2, .int 1]) dTr_at_4 rz9_39 rfl sh_1 rfl rfl rfl (Nat.le_of_ble_eq_true rfl) (Nat.le_of_ble_eq_true rfl) rfl))))
theorem bTr_at_7 {E : mEn} {d : Nat} {σ : mSt} {Q : mPost} {a1 : Int32} {a2 : Int32} {s0 : Int32} : WP E d mTr_at 7 [.ref 1, .int a1, .int a2] [.int s0] σ Q = (if s0 = 0 then WP E d mTr_at 24 [.ref 1, .int a1, .int a2] [] σ Q else WP E d mTr_at 10 [.ref 1, .int a1, .int a2] [] σ Q) := w_ifeq (t := 24) dTr_at_7 (by decide)
theorem bTr_at_10 {E : mEn} {d : Nat} {σ : mSt} {Q : mPost} {a1 : Int32} {a2 : Int32} : WP E d mTr_at 10 [.ref 1, .int a1, .int a2] [] σ Q = (if mOut ((a1 * (nI 60)) + a2) 240 = true then False else WP E d mTr_at 25 [.ref 1, .int a1, .int a2] [.long (σ.2 2 ((a1 * (nI 60)) + a2).toNatClampNeg)] σ Q) := (w_aload_n dTr_at_10 rfl).trans ((w_getr (r := 2) dTr_at_11 rz9_11 sh_1 rfl).trans ((w_iload_n dTr_at_14 rfl).trans ((w_bipush (v := (nI 60)) dTr_at_15 rfl).trans ((w_imul dTr_at_17).trans ((w_iload_n dTr_at_18 rfl).trans ((w_iadd dTr_at_19).trans ((w_lald dTr_at_20 sh_2).trans (ite_c (w_goto (t := 25) dTr_at_21 (by decide))))))))))
theorem bTr_at_24 {E : mEn} {d : Nat} {σ : mSt} {Q : mPost} {a1 : Int32} {a2 : Int32} : WP E d mTr_at 24 [.ref 1, .int a1, .int a2] [] σ Q = WP E d mTr_at 25 [.ref 1, .int a1, .int a2] [.long 0] σ Q := w_lconst (v := 0) dTr_at_24 rfl
theorem bTr_at_25 {E : mEn} {d : Nat} {σ : mSt} {Q : mPost} {a1 : Int32} {a2 : Int32} {q0 : Int64} : WP E d mTr_at 25 [.ref 1, .int a1, .int a2] [.long q0] σ Q = Q (some (.long q0)) σ := w_lret dTr_at_25 rfl
theorem dTr_alike_0 : decode (mC mTr_alike) 0 = .ok (.aload_n 0, 1) := by decide +kernel
theorem dTr_alike_1 : decode (mC mTr_alike) 1 = .ok (.iload_n 1, 1) := by decide +kernel
theorem dTr_alike_2 : decode (mC mTr_alike) 2 = .ok (.invokevirtual 28, 3) := by decide +kernel
theorem dTr_alike_5 : decode (mC mTr_alike) 5 = .ok (.ifCond .eq (30), 3) := by decide +kernel
theorem dTr_alike_8 : decode (mC mTr_alike) 8 = .ok (.aload_n 0, 1) := by decide +kernel
theorem dTr_alike_9 : decode (mC mTr_alike) 9 = .ok (.iload_n 2, 1) := by decide +kernel
theorem dTr_alike_10 : decode (mC mTr_alike) 10 = .ok (.invokevirtual 28, 3) := by decide +kernel
theorem dTr_alike_13 : decode (mC mTr_alike) 13 = .ok (.ifCond .eq (22), 3) := by decide +kernel
theorem dTr_alike_16 : decode (mC mTr_alike) 16 = .ok (.aload_n 0, 1) := by decide +kernel
theorem dTr_alike_17 : decode (mC mTr_alike) 17 = .ok (.getfield 15, 3) := by decide +kernel
theorem dTr_alike_20 : decode (mC mTr_alike) 20 = .ok (.iload_n 1, 1) := by decide +kernel
theorem dTr_alike_21 : decode (mC mTr_alike) 21 = .ok (.iaload, 1) := by decide +kernel
theorem dTr_alike_22 : decode (mC mTr_alike) 22 = .ok (.aload_n 0, 1) := by decide +kernel
theorem dTr_alike_23 : decode (mC mTr_alike) 23 = .ok (.getfield 15, 3) := by decide +kernel
theorem dTr_alike_26 : decode (mC mTr_alike) 26 = .ok (.iload_n 2, 1) := by decide +kernel
theorem dTr_alike_27 : decode (mC mTr_alike) 27 = .ok (.iaload, 1) := by decide +kernel
theorem dTr_alike_28 : decode (mC mTr_alike) 28 = .ok (.if_icmp .ne (7), 3) := by decide +kernel
theorem dTr_alike_31 : decode (mC mTr_alike) 31 = .ok (.iconst (1), 1) := by decide +kernel
theorem dTr_alike_32 : decode (mC mTr_alike) 32 = .ok (.goto (4), 3) := by decide +kernel
theorem dTr_alike_35 : decode (mC mTr_alike) 35 = .ok (.iconst (0), 1) := by decide +kernel
theorem dTr_alike_36 : decode (mC mTr_alike) 36 = .ok (.ireturn, 1) := by decide +kernel
theorem bTr_alike_0 {E : mEn} {d : Nat} {σ : mSt} {Q : mPost} {a1 : Int32} {a2 : Int32} : WP E (d + 1) mTr_alike 0 [.ref 1, .int a1, .int a2] [] σ Q = WP E d mTr_exists 0 [.ref 1, .int a1] [] σ (fun r σ' => WP E (d + 1) mTr_alike 5 [.ref 1, .int a1, .int a2] (r.toList ++ []) σ' Q) := (w_aload_n dTr_alike_0 rfl).trans ((w_iload_n dTr_alike_1 rfl).trans (w_virt (vs := [.int a1]) (st' := []) (es := [.ref 1, .int a1]) dTr_alike_2 rz9_28 rfl sh_1 rfl rfl rfl (Nat.le_of_ble_eq_true rfl) (Nat.le_of_ble_eq_true rfl) rfl))
theorem bTr_alike_5 {E : mEn} {d : Nat} {σ : mSt} {Q : mPost} {a1 : Int32} {a2 : Int32} {s0 : Int32} : WP E d mTr_alike 5 [.ref 1, .int a1, .int a2] [.int s0] σ Q = (if s0 = 0 then WP E d mTr_alike 35 [.ref 1, .int a1, .int a2] [] σ Q else WP E d mTr_alike 8 [.ref 1, .int a1, .int a2] [] σ Q) := w_ifeq (t := 35) dTr_alike_5 (by decide)
theorem bTr_alike_8 {E : mEn} {d : Nat} {σ : mSt} {Q : mPost} {a1 : Int32} {a2 : Int32} : WP E (d + 1) mTr_alike 8 [.ref 1, .int a1, .int a2] [] σ Q = WP E d mTr_exists 0 [.ref 1, .int a2] [] σ (fun r σ' => WP E (d + 1) mTr_alike 13 [.ref 1, .int a1, .int a2] (r.toList ++ []) σ' Q) := (w_aload_n dTr_alike_8 rfl).trans ((w_iload_n dTr_alike_9 rfl).trans (w_virt (vs := [.int a2]) (st' := []) (es := [.ref 1, .int a2]) dTr_alike_10 rz9_28 rfl sh_1 rfl rfl rfl (Nat.le_of_ble_eq_true rfl) (Nat.le_of_ble_eq_true rfl) rfl))
theorem bTr_alike_13 {E : mEn} {d : Nat} {σ : mSt} {Q : mPost} {a1 : Int32} {a2 : Int32} {s0 : Int32} : WP E d mTr_alike 13 [.ref 1, .int a1, .int a2] [.int s0] σ Q = (if s0 = 0 then WP E d mTr_alike 35 [.ref 1, .int a1, .int a2] [] σ Q else WP E d mTr_alike 16 [.ref 1, .int a1, .int a2] [] σ Q) := w_ifeq (t := 35) dTr_alike_13 (by decide)
theorem bTr_alike_16 {E : mEn} {d : Nat} {σ : mSt} {Q : mPost} {a1 : Int32} {a2 : Int32} : WP E d mTr_alike 16 [.ref 1, .int a1, .int a2] [] σ Q = (if mOut a1 4 = true then False else (if mOut a2 4 = true then False else (if ¬ (σ.1 3 a1.toNatClampNeg) = (σ.1 3 a2.toNatClampNeg) then WP E d mTr_alike 35 [.ref 1, .int a1, .int a2] [] σ Q else WP E d mTr_alike 31 [.ref 1, .int a1, .int a2] [] σ Q))) := (w_aload_n dTr_alike_16 rfl).trans ((w_getr (r := 3) dTr_alike_17 rz9_15 sh_1 rfl).trans ((w_iload_n dTr_alike_20 rfl).trans ((w_iald dTr_alike_21 sh_3 (by decide)).trans (ite_c ((w_aload_n dTr_alike_22 rfl).trans ((w_getr (r := 3) dTr_alike_23 rz9_15 sh_1 rfl).trans ((w_iload_n dTr_alike_26 rfl).trans ((w_iald dTr_alike_27 sh_3 (by decide)).trans (ite_c (w_icmpne (t := 35) dTr_alike_28 (by decide)))))))))))
theorem bTr_alike_31 {E : mEn} {d : Nat} {σ : mSt} {Q : mPost} {a1 : Int32} {a2 : Int32} : WP E d mTr_alike 31 [.ref 1, .int a1, .int a2] [] σ Q = WP E d mTr_alike 36 [.ref 1, .int a1, .int a2] [.int 1] σ Q := (w_iconst (v := 1) dTr_alike_31 rfl).trans (w_goto (t := 36) dTr_alike_32 (by decide))
theorem bTr_alike_35 {E : mEn} {d : Nat} {σ : mSt} {Q : mPost} {a1 : Int32} {a2 : Int32} : WP E d mTr_alike 35 [.ref 1, .int a1, .int a2] [] σ Q = WP E d mTr_alike 36 [.ref 1, .int a1, .int a2] [.int 0] σ Q := w_iconst (v := 0) dTr_alike_35 rfl
theorem bTr_alike_36 {E : mEn} {d : Nat} {σ : mSt} {Q : mPost} {a1 : Int32} {a2 : Int32} {s0 : Int32} (hz0 : s0 = 0 ∨ s0 = 1) : WP E d mTr_alike 36 [.ref 1, .int a1, .int a2] [.int s0] σ Q = Q (some (.int s0)) σ := w_zret dTr_alike_36 rfl hz0
theorem dTr_move_0 : decode (mC mTr_move) 0 = .ok (.aload_n 0, 1) := by decide +kernel
theorem dTr_move_1 : decode (mC mTr_move) 1 = .ok (.iload_n 1, 1) := by decide +kernel
theorem dTr_move_2 : decode (mC mTr_move) 2 = .ok (.iload_n 2, 1) := by decide +kernel
theorem dTr_move_3 : decode (mC mTr_move) 3 = .ok (.iload 5, 2) := by decide +kernel
theorem dTr_move_5 : decode (mC mTr_move) 5 = .ok (.invokevirtual 39, 3) := by decide +kernel
theorem dTr_move_8 : decode (mC mTr_move) 8 = .ok (.ifCond .eq (41), 3) := by decide +kernel
theorem dTr_move_11 : decode (mC mTr_move) 11 = .ok (.aload_n 0, 1) := by decide +kernel
theorem dTr_move_12 : decode (mC mTr_move) 12 = .ok (.iload_n 3, 1) := by decide +kernel
theorem dTr_move_13 : decode (mC mTr_move) 13 = .ok (.iload 4, 2) := by decide +kernel
theorem dTr_move_15 : decode (mC mTr_move) 15 = .ok (.iload 5, 2) := by decide +kernel
theorem dTr_move_17 : decode (mC mTr_move) 17 = .ok (.invokevirtual 39, 3) := by decide +kernel
theorem dTr_move_20 : decode (mC mTr_move) 20 = .ok (.ifCond .eq (29), 3) := by decide +kernel
theorem dTr_move_23 : decode (mC mTr_move) 23 = .ok (.aload_n 0, 1) := by decide +kernel
theorem dTr_move_24 : decode (mC mTr_move) 24 = .ok (.getfield 11, 3) := by decide +kernel
theorem dTr_move_27 : decode (mC mTr_move) 27 = .ok (.iload_n 1, 1) := by decide +kernel
theorem dTr_move_28 : decode (mC mTr_move) 28 = .ok (.bipush (60), 2) := by decide +kernel
theorem dTr_move_30 : decode (mC mTr_move) 30 = .ok (.imul, 1) := by decide +kernel
theorem dTr_move_31 : decode (mC mTr_move) 31 = .ok (.iload_n 2, 1) := by decide +kernel
theorem dTr_move_32 : decode (mC mTr_move) 32 = .ok (.iadd, 1) := by decide +kernel
theorem dTr_move_33 : decode (mC mTr_move) 33 = .ok (.aload_n 0, 1) := by decide +kernel
theorem dTr_move_34 : decode (mC mTr_move) 34 = .ok (.getfield 11, 3) := by decide +kernel
theorem dTr_move_37 : decode (mC mTr_move) 37 = .ok (.iload_n 3, 1) := by decide +kernel
theorem dTr_move_38 : decode (mC mTr_move) 38 = .ok (.bipush (60), 2) := by decide +kernel
theorem dTr_move_40 : decode (mC mTr_move) 40 = .ok (.imul, 1) := by decide +kernel
theorem dTr_move_41 : decode (mC mTr_move) 41 = .ok (.iload 4, 2) := by decide +kernel
theorem dTr_move_43 : decode (mC mTr_move) 43 = .ok (.iadd, 1) := by decide +kernel
theorem dTr_move_44 : decode (mC mTr_move) 44 = .ok (.iload 5, 2) := by decide +kernel
theorem dTr_move_46 : decode (mC mTr_move) 46 = .ok (.invokestatic 47, 3) := by decide +kernel
theorem dTr_move_49 : decode (mC mTr_move) 49 = .ok (.return_, 1) := by decide +kernel
theorem bTr_move_0 {E : mEn} {d : Nat} {σ : mSt} {Q : mPost} {a1 : Int32} {a2 : Int32} {a3 : Int32} {a4 : Int32} {a5 : Int32} : WP E (d + 1) mTr_move 0 [.ref 1, .int a1, .int a2, .int a3, .int a4, .int a5] [] σ Q = WP E d mTr_hasRow 0 [.ref 1, .int a1, .int a2, .int a5] [] σ (fun r σ' => WP E (d + 1) mTr_move 8 [.ref 1, .int a1, .int a2, .int a3, .int a4, .int a5] (r.toList ++ []) σ' Q) := (w_aload_n dTr_move_0 rfl).trans ((w_iload_n dTr_move_1 rfl).trans ((w_iload_n dTr_move_2 rfl).trans ((w_iload dTr_move_3 rfl).trans (w_virt (vs := [.int a1, .int a2, .int a5]) (st' := []) (es := [.ref 1, .int a1, .int a2, .int a5]) dTr_move_5 rz9_39 rfl sh_1 rfl rfl rfl (Nat.le_of_ble_eq_true rfl) (Nat.le_of_ble_eq_true rfl) rfl))))
theorem bTr_move_8 {E : mEn} {d : Nat} {σ : mSt} {Q : mPost} {a1 : Int32} {a2 : Int32} {a3 : Int32} {a4 : Int32} {a5 : Int32} {s0 : Int32} : WP E d mTr_move 8 [.ref 1, .int a1, .int a2, .int a3, .int a4, .int a5] [.int s0] σ Q = (if s0 = 0 then WP E d mTr_move 49 [.ref 1, .int a1, .int a2, .int a3, .int a4, .int a5] [] σ Q else WP E d mTr_move 11 [.ref 1, .int a1, .int a2, .int a3, .int a4, .int a5] [] σ Q) := w_ifeq (t := 49) dTr_move_8 (by decide)
theorem bTr_move_11 {E : mEn} {d : Nat} {σ : mSt} {Q : mPost} {a1 : Int32} {a2 : Int32} {a3 : Int32} {a4 : Int32} {a5 : Int32} : WP E (d + 1) mTr_move 11 [.ref 1, .int a1, .int a2, .int a3, .int a4, .int a5] [] σ Q = WP E d mTr_hasRow 0 [.ref 1, .int a3, .int a4, .int a5] [] σ (fun r σ' => WP E (d + 1) mTr_move 20 [.ref 1, .int a1, .int a2, .int a3, .int a4, .int a5] (r.toList ++ []) σ' Q) := (w_aload_n dTr_move_11 rfl).trans ((w_iload_n dTr_move_12 rfl).trans ((w_iload dTr_move_13 rfl).trans ((w_iload dTr_move_15 rfl).trans (w_virt (vs := [.int a3, .int a4, .int a5]) (st' := []) (es := [.ref 1, .int a3, .int a4, .int a5]) dTr_move_17 rz9_39 rfl sh_1 rfl rfl rfl (Nat.le_of_ble_eq_true rfl) (Nat.le_of_ble_eq_true rfl) rfl))))
theorem bTr_move_20 {E : mEn} {d : Nat} {σ : mSt} {Q : mPost} {a1 : Int32} {a2 : Int32} {a3 : Int32} {a4 : Int32} {a5 : Int32} {s0 : Int32} : WP E d mTr_move 20 [.ref 1, .int a1, .int a2, .int a3, .int a4, .int a5] [.int s0] σ Q = (if s0 = 0 then WP E d mTr_move 49 [.ref 1, .int a1, .int a2, .int a3, .int a4, .int a5] [] σ Q else WP E d mTr_move 23 [.ref 1, .int a1, .int a2, .int a3, .int a4, .int a5] [] σ Q) := w_ifeq (t := 49) dTr_move_20 (by decide)
theorem bTr_move_23 {E : mEn} {d : Nat} {σ : mSt} {Q : mPost} {a1 : Int32} {a2 : Int32} {a3 : Int32} {a4 : Int32} {a5 : Int32} (hc0 : cpOk ((a1 * (nI 60)) + a2) ((a3 * (nI 60)) + a4) a5 240 240 = true) : WP E d mTr_move 23 [.ref 1, .int a1, .int a2, .int a3, .int a4, .int a5] [] σ Q = WP E d mTr_move 49 [.ref 1, .int a1, .int a2, .int a3, .int a4, .int a5] [] (cpL σ 2 2 ((a1 * (nI 60)) + a2).toNatClampNeg ((a3 * (nI 60)) + a4).toNatClampNeg a5.toNatClampNeg) Q := (w_aload_n dTr_move_23 rfl).trans ((w_getr (r := 2) dTr_move_24 rz9_11 sh_1 rfl).trans ((w_iload_n dTr_move_27 rfl).trans ((w_bipush (v := (nI 60)) dTr_move_28 rfl).trans ((w_imul dTr_move_30).trans ((w_iload_n dTr_move_31 rfl).trans ((w_iadd dTr_move_32).trans ((w_aload_n dTr_move_33 rfl).trans ((w_getr (r := 2) dTr_move_34 rz9_11 sh_1 rfl).trans ((w_iload_n dTr_move_37 rfl).trans ((w_bipush (v := (nI 60)) dTr_move_38 rfl).trans ((w_imul dTr_move_40).trans ((w_iload dTr_move_41 rfl).trans ((w_iadd dTr_move_43).trans ((w_iload dTr_move_44 rfl).trans (w_cpl dTr_move_46 rz9_47 sh_2 sh_2 hc0 (Nat.le_of_ble_eq_true rfl))))))))))))))))
theorem bTr_move_49 {E : mEn} {d : Nat} {σ : mSt} {Q : mPost} {a1 : Int32} {a2 : Int32} {a3 : Int32} {a4 : Int32} {a5 : Int32} : WP E d mTr_move 49 [.ref 1, .int a1, .int a2, .int a3, .int a4, .int a5] [] σ Q = Q none σ := w_vret dTr_move_49 rfl
theorem dTr_allWithin_0 : decode (mC mTr_allWithin) 0 = .ok (.iconst (0), 1) := by decide +kernel
theorem dTr_allWithin_1 : decode (mC mTr_allWithin) 1 = .ok (.istore 5, 2) := by decide +kernel
theorem dTr_allWithin_3 : decode (mC mTr_allWithin) 3 = .ok (.iload 5, 2) := by decide +kernel
theorem dTr_allWithin_5 : decode (mC mTr_allWithin) 5 = .ok (.iload_n 2, 1) := by decide +kernel
theorem dTr_allWithin_6 : decode (mC mTr_allWithin) 6 = .ok (.if_icmp .ge (42), 3) := by decide +kernel
theorem dTr_allWithin_9 : decode (mC mTr_allWithin) 9 = .ok (.iload 5, 2) := by decide +kernel
theorem dTr_allWithin_11 : decode (mC mTr_allWithin) 11 = .ok (.bipush (60), 2) := by decide +kernel
theorem dTr_allWithin_13 : decode (mC mTr_allWithin) 13 = .ok (.if_icmp .ge (35), 3) := by decide +kernel
theorem dTr_allWithin_16 : decode (mC mTr_allWithin) 16 = .ok (.aload_n 0, 1) := by decide +kernel
theorem dTr_allWithin_17 : decode (mC mTr_allWithin) 17 = .ok (.iload_n 1, 1) := by decide +kernel
theorem dTr_allWithin_18 : decode (mC mTr_allWithin) 18 = .ok (.iload 5, 2) := by decide +kernel
theorem dTr_allWithin_20 : decode (mC mTr_allWithin) 20 = .ok (.invokevirtual 53, 3) := by decide +kernel
theorem dTr_allWithin_23 : decode (mC mTr_allWithin) 23 = .ok (.lconst 0, 1) := by decide +kernel
theorem dTr_allWithin_24 : decode (mC mTr_allWithin) 24 = .ok (.lcmp, 1) := by decide +kernel
theorem dTr_allWithin_25 : decode (mC mTr_allWithin) 25 = .ok (.ifCond .lt (15), 3) := by decide +kernel
theorem dTr_allWithin_28 : decode (mC mTr_allWithin) 28 = .ok (.aload_n 0, 1) := by decide +kernel
theorem dTr_allWithin_29 : decode (mC mTr_allWithin) 29 = .ok (.iload_n 1, 1) := by decide +kernel
theorem dTr_allWithin_30 : decode (mC mTr_allWithin) 30 = .ok (.iload 5, 2) := by decide +kernel
theorem dTr_allWithin_32 : decode (mC mTr_allWithin) 32 = .ok (.invokevirtual 53, 3) := by decide +kernel
theorem dTr_allWithin_35 : decode (mC mTr_allWithin) 35 = .ok (.lload_n 3, 1) := by decide +kernel
theorem dTr_allWithin_36 : decode (mC mTr_allWithin) 36 = .ok (.lcmp, 1) := by decide +kernel
theorem dTr_allWithin_37 : decode (mC mTr_allWithin) 37 = .ok (.ifCond .le (5), 3) := by decide +kernel
theorem dTr_allWithin_40 : decode (mC mTr_allWithin) 40 = .ok (.iconst (0), 1) := by decide +kernel
theorem dTr_allWithin_41 : decode (mC mTr_allWithin) 41 = .ok (.ireturn, 1) := by decide +kernel
theorem dTr_allWithin_42 : decode (mC mTr_allWithin) 42 = .ok (.iinc 5 (1), 3) := by decide +kernel
theorem dTr_allWithin_45 : decode (mC mTr_allWithin) 45 = .ok (.goto (-42), 3) := by decide +kernel
theorem dTr_allWithin_48 : decode (mC mTr_allWithin) 48 = .ok (.iconst (1), 1) := by decide +kernel
theorem dTr_allWithin_49 : decode (mC mTr_allWithin) 49 = .ok (.ireturn, 1) := by decide +kernel
theorem bTr_allWithin_0 {E : mEn} {d : Nat} {σ : mSt} {Q : mPost} {a1 : Int32} {a2 : Int32} {j3 : Int64} {u5 : Value} : WP E d mTr_allWithin 0 [.ref 1, .int a1, .int a2, .long j3, uu, u5] [] σ Q = WP E d mTr_allWithin 3 [.ref 1, .int a1, .int a2, .long j3, uu, .int 0] [] σ Q := (w_iconst (v := 0) dTr_allWithin_0 rfl).trans (w_istore (ls' := [.ref 1, .int a1, .int a2, .long j3, uu, .int 0]) dTr_allWithin_1 (Nat.le_of_ble_eq_true rfl) rfl)
theorem bTr_allWithin_3 {E : mEn} {d : Nat} {σ : mSt} {Q : mPost} {a1 : Int32} {a2 : Int32} {j3 : Int64} {a5 : Int32} : WP E d mTr_allWithin 3 [.ref 1, .int a1, .int a2, .long j3, uu, .int a5] [] σ Q = (if a2 ≤ a5 then WP E d mTr_allWithin 48 [.ref 1, .int a1, .int a2, .long j3, uu, .int a5] [] σ Q else WP E d mTr_allWithin 9 [.ref 1, .int a1, .int a2, .long j3, uu, .int a5] [] σ Q) := (w_iload dTr_allWithin_3 rfl).trans ((w_iload_n dTr_allWithin_5 rfl).trans (w_icmpge (t := 48) dTr_allWithin_6 (by decide)))
theorem bTr_allWithin_9 {E : mEn} {d : Nat} {σ : mSt} {Q : mPost} {a1 : Int32} {a2 : Int32} {j3 : Int64} {a5 : Int32} : WP E d mTr_allWithin 9 [.ref 1, .int a1, .int a2, .long j3, uu, .int a5] [] σ Q = (if (nI 60) ≤ a5 then WP E d mTr_allWithin 48 [.ref 1, .int a1, .int a2, .long j3, uu, .int a5] [] σ Q else WP E d mTr_allWithin 16 [.ref 1, .int a1, .int a2, .long j3, uu, .int a5] [] σ Q) := (w_iload dTr_allWithin_9 rfl).trans ((w_bipush (v := (nI 60)) dTr_allWithin_11 rfl).trans (w_icmpge (t := 48) dTr_allWithin_13 (by decide)))
theorem bTr_allWithin_16 {E : mEn} {d : Nat} {σ : mSt} {Q : mPost} {a1 : Int32} {a2 : Int32} {j3 : Int64} {a5 : Int32} : WP E (d + 1) mTr_allWithin 16 [.ref 1, .int a1, .int a2, .long j3, uu, .int a5] [] σ Q = WP E d mTr_at 0 [.ref 1, .int a1, .int a5] [] σ (fun r σ' => WP E (d + 1) mTr_allWithin 23 [.ref 1, .int a1, .int a2, .long j3, uu, .int a5] (r.toList ++ []) σ' Q) := (w_aload_n dTr_allWithin_16 rfl).trans ((w_iload_n dTr_allWithin_17 rfl).trans ((w_iload dTr_allWithin_18 rfl).trans (w_virt (vs := [.int a1, .int a5]) (st' := []) (es := [.ref 1, .int a1, .int a5]) dTr_allWithin_20 rz9_53 rfl sh_1 rfl rfl rfl (Nat.le_of_ble_eq_true rfl) (Nat.le_of_ble_eq_true rfl) rfl)))
theorem bTr_allWithin_23 {E : mEn} {d : Nat} {σ : mSt} {Q : mPost} {a1 : Int32} {a2 : Int32} {j3 : Int64} {a5 : Int32} {q0 : Int64} : WP E d mTr_allWithin 23 [.ref 1, .int a1, .int a2, .long j3, uu, .int a5] [.long q0] σ Q = (if (lg_cmp q0 0) < 0 then WP E d mTr_allWithin 40 [.ref 1, .int a1, .int a2, .long j3, uu, .int a5] [] σ Q else WP E d mTr_allWithin 28 [.ref 1, .int a1, .int a2, .long j3, uu, .int a5] [] σ Q) := (w_lconst (v := 0) dTr_allWithin_23 rfl).trans ((w_lcmp dTr_allWithin_24).trans (w_iflt (t := 40) dTr_allWithin_25 (by decide)))
theorem bTr_allWithin_28 {E : mEn} {d : Nat} {σ : mSt} {Q : mPost} {a1 : Int32} {a2 : Int32} {j3 : Int64} {a5 : Int32} : WP E (d + 1) mTr_allWithin 28 [.ref 1, .int a1, .int a2, .long j3, uu, .int a5] [] σ Q = WP E d mTr_at 0 [.ref 1, .int a1, .int a5] [] σ (fun r σ' => WP E (d + 1) mTr_allWithin 35 [.ref 1, .int a1, .int a2, .long j3, uu, .int a5] (r.toList ++ []) σ' Q) := (w_aload_n dTr_allWithin_28 rfl).trans ((w_iload_n dTr_allWithin_29 rfl).trans ((w_iload dTr_allWithin_30 rfl).trans (w_virt (vs := [.int a1, .int a5]) (st' := []) (es := [.ref 1, .int a1, .int a5]) dTr_allWithin_32 rz9_53 rfl sh_1 rfl rfl rfl (Nat.le_of_ble_eq_true rfl) (Nat.le_of_ble_eq_true rfl) rfl)))
theorem bTr_allWithin_35 {E : mEn} {d : Nat} {σ : mSt} {Q : mPost} {a1 : Int32} {a2 : Int32} {j3 : Int64} {a5 : Int32} {q0 : Int64} : WP E d mTr_allWithin 35 [.ref 1, .int a1, .int a2, .long j3, uu, .int a5] [.long q0] σ Q = (if (lg_cmp q0 j3) ≤ 0 then WP E d mTr_allWithin 42 [.ref 1, .int a1, .int a2, .long j3, uu, .int a5] [] σ Q else WP E d mTr_allWithin 40 [.ref 1, .int a1, .int a2, .long j3, uu, .int a5] [] σ Q) := (w_lload_n dTr_allWithin_35 rfl).trans ((w_lcmp dTr_allWithin_36).trans (w_ifle (t := 42) dTr_allWithin_37 (by decide)))
theorem bTr_allWithin_40 {E : mEn} {d : Nat} {σ : mSt} {Q : mPost} {a1 : Int32} {a2 : Int32} {j3 : Int64} {a5 : Int32} : WP E d mTr_allWithin 40 [.ref 1, .int a1, .int a2, .long j3, uu, .int a5] [] σ Q = Q (some (.int 0)) σ := (w_iconst (v := 0) dTr_allWithin_40 rfl).trans (w_zret dTr_allWithin_41 rfl (Or.inl rfl))
theorem bTr_allWithin_42 {E : mEn} {d : Nat} {σ : mSt} {Q : mPost} {a1 : Int32} {a2 : Int32} {j3 : Int64} {a5 : Int32} : WP E d mTr_allWithin 42 [.ref 1, .int a1, .int a2, .long j3, uu, .int a5] [] σ Q = WP E d mTr_allWithin 3 [.ref 1, .int a1, .int a2, .long j3, uu, .int (a5 + 1)] [] σ Q := (w_iinc (v := 1) (ls' := [.ref 1, .int a1, .int a2, .long j3, uu, .int (a5 + 1)]) dTr_allWithin_42 rfl rfl rfl).trans (w_goto (t := 3) dTr_allWithin_45 (by decide))
theorem bTr_allWithin_48 {E : mEn} {d : Nat} {σ : mSt} {Q : mPost} {a1 : Int32} {a2 : Int32} {j3 : Int64} {a5 : Int32} : WP E d mTr_allWithin 48 [.ref 1, .int a1, .int a2, .long j3, uu, .int a5] [] σ Q = Q (some (.int 1)) σ := (w_iconst (v := 1) dTr_allWithin_48 rfl).trans (w_zret dTr_allWithin_49 rfl (Or.inr rfl))
theorem dTr_placeOfMost_0 : decode (mC mTr_placeOfMost) 0 = .ok (.iconst (-1), 1) := by decide +kernel
theorem dTr_placeOfMost_1 : decode (mC mTr_placeOfMost) 1 = .ok (.istore 4, 2) := by decide +kernel
theorem dTr_placeOfMost_3 : decode (mC mTr_placeOfMost) 3 = .ok (.iconst (0), 1) := by decide +kernel
theorem dTr_placeOfMost_4 : decode (mC mTr_placeOfMost) 4 = .ok (.istore 5, 2) := by decide +kernel
theorem dTr_placeOfMost_6 : decode (mC mTr_placeOfMost) 6 = .ok (.iload 5, 2) := by decide +kernel
theorem dTr_placeOfMost_8 : decode (mC mTr_placeOfMost) 8 = .ok (.iload_n 2, 1) := by decide +kernel
theorem dTr_placeOfMost_9 : decode (mC mTr_placeOfMost) 9 = .ok (.if_icmp .ge (50), 3) := by decide +kernel
theorem dTr_placeOfMost_12 : decode (mC mTr_placeOfMost) 12 = .ok (.iload 5, 2) := by decide +kernel
theorem dTr_placeOfMost_14 : decode (mC mTr_placeOfMost) 14 = .ok (.bipush (60), 2) := by decide +kernel
theorem dTr_placeOfMost_16 : decode (mC mTr_placeOfMost) 16 = .ok (.if_icmp .ge (43), 3) := by decide +kernel
theorem dTr_placeOfMost_19 : decode (mC mTr_placeOfMost) 19 = .ok (.iload 5, 2) := by decide +kernel
theorem dTr_placeOfMost_21 : decode (mC mTr_placeOfMost) 21 = .ok (.iload_n 3, 1) := by decide +kernel
theorem dTr_placeOfMost_22 : decode (mC mTr_placeOfMost) 22 = .ok (.if_icmp .eq (31), 3) := by decide +kernel
theorem dTr_placeOfMost_25 : decode (mC mTr_placeOfMost) 25 = .ok (.iload 4, 2) := by decide +kernel
theorem dTr_placeOfMost_27 : decode (mC mTr_placeOfMost) 27 = .ok (.iconst (-1), 1) := by decide +kernel
theorem dTr_placeOfMost_28 : decode (mC mTr_placeOfMost) 28 = .ok (.if_icmp .eq (21), 3) := by decide +kernel
theorem dTr_placeOfMost_31 : decode (mC mTr_placeOfMost) 31 = .ok (.aload_n 0, 1) := by decide +kernel
theorem dTr_placeOfMost_32 : decode (mC mTr_placeOfMost) 32 = .ok (.iload_n 1, 1) := by decide +kernel
theorem dTr_placeOfMost_33 : decode (mC mTr_placeOfMost) 33 = .ok (.iload 5, 2) := by decide +kernel
theorem dTr_placeOfMost_35 : decode (mC mTr_placeOfMost) 35 = .ok (.invokevirtual 53, 3) := by decide +kernel
theorem dTr_placeOfMost_38 : decode (mC mTr_placeOfMost) 38 = .ok (.aload_n 0, 1) := by decide +kernel
theorem dTr_placeOfMost_39 : decode (mC mTr_placeOfMost) 39 = .ok (.iload_n 1, 1) := by decide +kernel
theorem dTr_placeOfMost_40 : decode (mC mTr_placeOfMost) 40 = .ok (.iload 4, 2) := by decide +kernel
theorem dTr_placeOfMost_42 : decode (mC mTr_placeOfMost) 42 = .ok (.invokevirtual 53, 3) := by decide +kernel
theorem dTr_placeOfMost_45 : decode (mC mTr_placeOfMost) 45 = .ok (.lcmp, 1) := by decide +kernel
theorem dTr_placeOfMost_46 : decode (mC mTr_placeOfMost) 46 = .ok (.ifCond .le (7), 3) := by decide +kernel
theorem dTr_placeOfMost_49 : decode (mC mTr_placeOfMost) 49 = .ok (.iload 5, 2) := by decide +kernel
theorem dTr_placeOfMost_51 : decode (mC mTr_placeOfMost) 51 = .ok (.istore 4, 2) := by decide +kernel
theorem dTr_placeOfMost_53 : decode (mC mTr_placeOfMost) 53 = .ok (.iinc 5 (1), 3) := by decide +kernel
theorem dTr_placeOfMost_56 : decode (mC mTr_placeOfMost) 56 = .ok (.goto (-50), 3) := by decide +kernel
theorem dTr_placeOfMost_59 : decode (mC mTr_placeOfMost) 59 = .ok (.iload 4, 2) := by decide +kernel
theorem dTr_placeOfMost_61 : decode (mC mTr_placeOfMost) 61 = .ok (.ireturn, 1) := by decide +kernel
theorem bTr_placeOfMost_0 {E : mEn} {d : Nat} {σ : mSt} {Q : mPost} {a1 : Int32} {a2 : Int32} {a3 : Int32} {u4 : Value} {u5 : Value} : WP E d mTr_placeOfMost 0 [.ref 1, .int a1, .int a2, .int a3, u4, u5] [] σ Q = WP E d mTr_placeOfMost 6 [.ref 1, .int a1, .int a2, .int a3, .int (-1), .int 0] [] σ Q := (w_iconst (v := (-1)) dTr_placeOfMost_0 rfl).trans ((w_istore (ls' := [.ref 1, .int a1, .int a2, .int a3, .int (-1), u5]) dTr_placeOfMost_1 (Nat.le_of_ble_eq_true rfl) rfl).trans ((w_iconst (v := 0) dTr_placeOfMost_3 rfl).trans (w_istore (ls' := [.ref 1, .int a1, .int a2, .int a3, .int (-1), .int 0]) dTr_placeOfMost_4 (Nat.le_of_ble_eq_true rfl) rfl)))
theorem bTr_placeOfMost_6 {E : mEn} {d : Nat} {σ : mSt} {Q : mPost} {a1 : Int32} {a2 : Int32} {a3 : Int32} {a4 : Int32} {a5 : Int32} : WP E d mTr_placeOfMost 6 [.ref 1, .int a1, .int a2, .int a3, .int a4, .int a5] [] σ Q = (if a2 ≤ a5 then WP E d mTr_placeOfMost 59 [.ref 1, .int a1, .int a2, .int a3, .int a4, .int a5] [] σ Q else WP E d mTr_placeOfMost 12 [.ref 1, .int a1, .int a2, .int a3, .int a4, .int a5] [] σ Q) := (w_iload dTr_placeOfMost_6 rfl).trans ((w_iload_n dTr_placeOfMost_8 rfl).trans (w_icmpge (t := 59) dTr_placeOfMost_9 (by decide)))
theorem bTr_placeOfMost_12 {E : mEn} {d : Nat} {σ : mSt} {Q : mPost} {a1 : Int32} {a2 : Int32} {a3 : Int32} {a4 : Int32} {a5 : Int32} : WP E d mTr_placeOfMost 12 [.ref 1, .int a1, .int a2, .int a3, .int a4, .int a5] [] σ Q = (if (nI 60) ≤ a5 then WP E d mTr_placeOfMost 59 [.ref 1, .int a1, .int a2, .int a3, .int a4, .int a5] [] σ Q else WP E d mTr_placeOfMost 19 [.ref 1, .int a1, .int a2, .int a3, .int a4, .int a5] [] σ Q) := (w_iload dTr_placeOfMost_12 rfl).trans ((w_bipush (v := (nI 60)) dTr_placeOfMost_14 rfl).trans (w_icmpge (t := 59) dTr_placeOfMost_16 (by decide)))
theorem bTr_placeOfMost_19 {E : mEn} {d : Nat} {σ : mSt} {Q : mPost} {a1 : Int32} {a2 : Int32} {a3 : Int32} {a4 : Int32} {a5 : Int32} : WP E d mTr_placeOfMost 19 [.ref 1, .int a1, .int a2, .int a3, .int a4, .int a5] [] σ Q = (if a5 = a3 then WP E d mTr_placeOfMost 53 [.ref 1, .int a1, .int a2, .int a3, .int a4, .int a5] [] σ Q else WP E d mTr_placeOfMost 25 [.ref 1, .int a1, .int a2, .int a3, .int a4, .int a5] [] σ Q) := (w_iload dTr_placeOfMost_19 rfl).trans ((w_iload_n dTr_placeOfMost_21 rfl).trans (w_icmpeq (t := 53) dTr_placeOfMost_22 (by decide)))
theorem bTr_placeOfMost_25 {E : mEn} {d : Nat} {σ : mSt} {Q : mPost} {a1 : Int32} {a2 : Int32} {a3 : Int32} {a4 : Int32} {a5 : Int32} : WP E d mTr_placeOfMost 25 [.ref 1, .int a1, .int a2, .int a3, .int a4, .int a5] [] σ Q = (if a4 = (-1) then WP E d mTr_placeOfMost 49 [.ref 1, .int a1, .int a2, .int a3, .int a4, .int a5] [] σ Q else WP E d mTr_placeOfMost 31 [.ref 1, .int a1, .int a2, .int a3, .int a4, .int a5] [] σ Q) := (w_iload dTr_placeOfMost_25 rfl).trans ((w_iconst (v := (-1)) dTr_placeOfMost_27 rfl).trans (w_icmpeq (t := 49) dTr_placeOfMost_28 (by decide)))
theorem bTr_placeOfMost_31 {E : mEn} {d : Nat} {σ : mSt} {Q : mPost} {a1 : Int32} {a2 : Int32} {a3 : Int32} {a4 : Int32} {a5 : Int32} : WP E (d + 1) mTr_placeOfMost 31 [.ref 1, .int a1, .int a2, .int a3, .int a4, .int a5] [] σ Q = WP E d mTr_at 0 [.ref 1, .int a1, .int a5] [] σ (fun r σ' => WP E (d + 1) mTr_placeOfMost 38 [.ref 1, .int a1, .int a2, .int a3, .int a4, .int a5] (r.toList ++ []) σ' Q) := (w_aload_n dTr_placeOfMost_31 rfl).trans ((w_iload_n dTr_placeOfMost_32 rfl).trans ((w_iload dTr_placeOfMost_33 rfl).trans (w_virt (vs := [.int a1, .int a5]) (st' := []) (es := [.ref 1, .int a1, .int a5]) dTr_placeOfMost_35 rz9_53 rfl sh_1 rfl rfl rfl (Nat.le_of_ble_eq_true rfl) (Nat.le_of_ble_eq_true rfl) rfl)))
theorem bTr_placeOfMost_38 {E : mEn} {d : Nat} {σ : mSt} {Q : mPost} {a1 : Int32} {a2 : Int32} {a3 : Int32} {a4 : Int32} {a5 : Int32} {q0 : Int64} : WP E (d + 1) mTr_placeOfMost 38 [.ref 1, .int a1, .int a2, .int a3, .int a4, .int a5] [.long q0] σ Q = WP E d mTr_at 0 [.ref 1, .int a1, .int a4] [] σ (fun r σ' => WP E (d + 1) mTr_placeOfMost 45 [.ref 1, .int a1, .int a2, .int a3, .int a4, .int a5] (r.toList ++ [.long q0]) σ' Q) := (w_aload_n dTr_placeOfMost_38 rfl).trans ((w_iload_n dTr_placeOfMost_39 rfl).trans ((w_iload dTr_placeOfMost_40 rfl).trans (w_virt (vs := [.int a1, .int a4]) (st' := [.long q0]) (es := [.ref 1, .int a1, .int a4]) dTr_placeOfMost_42 rz9_53 rfl sh_1 rfl rfl rfl (Nat.le_of_ble_eq_true rfl) (Nat.le_of_ble_eq_true rfl) rfl)))
theorem bTr_placeOfMost_45 {E : mEn} {d : Nat} {σ : mSt} {Q : mPost} {a1 : Int32} {a2 : Int32} {a3 : Int32} {a4 : Int32} {a5 : Int32} {q0 : Int64} {q1 : Int64} : WP E d mTr_placeOfMost 45 [.ref 1, .int a1, .int a2, .int a3, .int a4, .int a5] [.long q0, .long q1] σ Q = (if (lg_cmp q1 q0) ≤ 0 then WP E d mTr_placeOfMost 53 [.ref 1, .int a1, .int a2, .int a3, .int a4, .int a5] [] σ Q else WP E d mTr_placeOfMost 49 [.ref 1, .int a1, .int a2, .int a3, .int a4, .int a5] [] σ Q) := (w_lcmp dTr_placeOfMost_45).trans (w_ifle (t := 53) dTr_placeOfMost_46 (by decide))
theorem bTr_placeOfMost_49 {E : mEn} {d : Nat} {σ : mSt} {Q : mPost} {a1 : Int32} {a2 : Int32} {a3 : Int32} {a4 : Int32} {a5 : Int32} : WP E d mTr_placeOfMost 49 [.ref 1, .int a1, .int a2, .int a3, .int a4, .int a5] [] σ Q = WP E d mTr_placeOfMost 53 [.ref 1, .int a1, .int a2, .int a3, .int a5, .int a5] [] σ Q := (w_iload dTr_placeOfMost_49 rfl).trans (w_istore (ls' := [.ref 1, .int a1, .int a2, .int a3, .int a5, .int a5]) dTr_placeOfMost_51 (Nat.le_of_ble_eq_true rfl) rfl)
theorem bTr_placeOfMost_53 {E : mEn} {d : Nat} {σ : mSt} {Q : mPost} {a1 : Int32} {a2 : Int32} {a3 : Int32} {a4 : Int32} {a5 : Int32} : WP E d mTr_placeOfMost 53 [.ref 1, .int a1, .int a2, .int a3, .int a4, .int a5] [] σ Q = WP E d mTr_placeOfMost 6 [.ref 1, .int a1, .int a2, .int a3, .int a4, .int (a5 + 1)] [] σ Q := (w_iinc (v := 1) (ls' := [.ref 1, .int a1, .int a2, .int a3, .int a4, .int (a5 + 1)]) dTr_placeOfMost_53 rfl rfl rfl).trans (w_goto (t := 6) dTr_placeOfMost_56 (by decide))
theorem bTr_placeOfMost_59 {E : mEn} {d : Nat} {σ : mSt} {Q : mPost} {a1 : Int32} {a2 : Int32} {a3 : Int32} {a4 : Int32} {a5 : Int32} : WP E d mTr_placeOfMost 59 [.ref 1, .int a1, .int a2, .int a3, .int a4, .int a5] [] σ Q = Q (some (.int a4)) σ := (w_iload dTr_placeOfMost_59 rfl).trans (w_iret dTr_placeOfMost_61 rfl)
end
