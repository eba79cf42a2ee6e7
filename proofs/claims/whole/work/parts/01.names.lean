-- ===== PART A: goes FIRST, ahead of the names: the tables' words, and 'selects' of the private methods out of them =====
/-- a private method of a class that the tables say can be made, by its rows of tables_1 -/
def lw_okq (q : MethodName × Nat) : Prop := (q.1.cls ≠ "java/lang/invoke/MethodHandle" ∧ q.1.cls ≠ "java/lang/invoke/VarHandle") ∧ Cond.instantiable q.1.cls q.2 ∈ tables_1 ∧ Cond.privateMethod q.1 ∈ tables_1 ∧ Cond.instanceMethod q.1 ∈ tables_1
theorem lw_p0 : lw_okq (⟨"PaperBread", "deny", "(I)Z"⟩, 16) := ⟨⟨by decide +kernel, by decide +kernel⟩, List.mem_of_getElem? (i := 21) (by decide +kernel), List.mem_of_getElem? (i := 536) (by decide +kernel), List.mem_of_getElem? (i := 537) (by decide +kernel)⟩
theorem lw_p1 : lw_okq (⟨"PaperBread", "grant", "()Z"⟩, 16) := ⟨⟨by decide +kernel, by decide +kernel⟩, List.mem_of_getElem? (i := 21) (by decide +kernel), List.mem_of_getElem? (i := 545) (by decide +kernel), List.mem_of_getElem? (i := 546) (by decide +kernel)⟩
theorem lw_p2 : lw_okq (⟨"PaperBread", "refuse", "(I)I"⟩, 16) := ⟨⟨by decide +kernel, by decide +kernel⟩, List.mem_of_getElem? (i := 21) (by decide +kernel), List.mem_of_getElem? (i := 580) (by decide +kernel), List.mem_of_getElem? (i := 581) (by decide +kernel)⟩
theorem lw_p3 : lw_okq (⟨"PaperBread$Tokens", "cutWord", "()V"⟩, 11) := ⟨⟨by decide +kernel, by decide +kernel⟩, List.mem_of_getElem? (i := 56) (by decide +kernel), List.mem_of_getElem? (i := 655) (by decide +kernel), List.mem_of_getElem? (i := 656) (by decide +kernel)⟩
theorem lw_p4 : lw_okq (⟨"PaperBread$Tokens", "cutNumber", "()V"⟩, 11) := ⟨⟨by decide +kernel, by decide +kernel⟩, List.mem_of_getElem? (i := 56) (by decide +kernel), List.mem_of_getElem? (i := 659) (by decide +kernel), List.mem_of_getElem? (i := 660) (by decide +kernel)⟩
theorem lw_p5 : lw_okq (⟨"PaperBread$Texts", "readPerson", "(LPaperBread$Town;)V"⟩, 2) := ⟨⟨by decide +kernel, by decide +kernel⟩, List.mem_of_getElem? (i := 50) (by decide +kernel), List.mem_of_getElem? (i := 671) (by decide +kernel), List.mem_of_getElem? (i := 672) (by decide +kernel)⟩
theorem lw_p6 : lw_okq (⟨"PaperBread$Texts", "beginPart", "(IZ)V"⟩, 2) := ⟨⟨by decide +kernel, by decide +kernel⟩, List.mem_of_getElem? (i := 50) (by decide +kernel), List.mem_of_getElem? (i := 675) (by decide +kernel), List.mem_of_getElem? (i := 676) (by decide +kernel)⟩
theorem lw_p7 : lw_okq (⟨"PaperBread$Tokens", "seesName", "()Z"⟩, 11) := ⟨⟨by decide +kernel, by decide +kernel⟩, List.mem_of_getElem? (i := 56) (by decide +kernel), List.mem_of_getElem? (i := 700) (by decide +kernel), List.mem_of_getElem? (i := 701) (by decide +kernel)⟩
theorem lw_p8 : lw_okq (⟨"PaperBread$Texts", "endsPart", "()Z"⟩, 2) := ⟨⟨by decide +kernel, by decide +kernel⟩, List.mem_of_getElem? (i := 50) (by decide +kernel), List.mem_of_getElem? (i := 717) (by decide +kernel), List.mem_of_getElem? (i := 718) (by decide +kernel)⟩
theorem lw_p9 : lw_okq (⟨"PaperBread$Texts", "readOven", "(LPaperBread$Town;)V"⟩, 2) := ⟨⟨by decide +kernel, by decide +kernel⟩, List.mem_of_getElem? (i := 50) (by decide +kernel), List.mem_of_getElem? (i := 735) (by decide +kernel), List.mem_of_getElem? (i := 736) (by decide +kernel)⟩
theorem lw_p10 : lw_okq (⟨"PaperBread$Texts", "readLoaf", "(LPaperBread$Town;)V"⟩, 2) := ⟨⟨by decide +kernel, by decide +kernel⟩, List.mem_of_getElem? (i := 50) (by decide +kernel), List.mem_of_getElem? (i := 743) (by decide +kernel), List.mem_of_getElem? (i := 744) (by decide +kernel)⟩
theorem lw_p11 : lw_okq (⟨"PaperBread$Texts", "readTownPromise", "(LPaperBread$Town;)V"⟩, 2) := ⟨⟨by decide +kernel, by decide +kernel⟩, List.mem_of_getElem? (i := 50) (by decide +kernel), List.mem_of_getElem? (i := 763) (by decide +kernel), List.mem_of_getElem? (i := 764) (by decide +kernel)⟩
theorem lw_p12 : lw_okq (⟨"PaperBread$Texts", "readPromise", "(LPaperBread$Names;)V"⟩, 2) := ⟨⟨by decide +kernel, by decide +kernel⟩, List.mem_of_getElem? (i := 50) (by decide +kernel), List.mem_of_getElem? (i := 767) (by decide +kernel), List.mem_of_getElem? (i := 768) (by decide +kernel)⟩
theorem lw_p13 : lw_okq (⟨"PaperBread", "keepFault", "()V"⟩, 16) := ⟨⟨by decide +kernel, by decide +kernel⟩, List.mem_of_getElem? (i := 21) (by decide +kernel), List.mem_of_getElem? (i := 780) (by decide +kernel), List.mem_of_getElem? (i := 781) (by decide +kernel)⟩
theorem lw_p14 : lw_okq (⟨"PaperBread", "answer", "(I)I"⟩, 16) := ⟨⟨by decide +kernel, by decide +kernel⟩, List.mem_of_getElem? (i := 21) (by decide +kernel), List.mem_of_getElem? (i := 807) (by decide +kernel), List.mem_of_getElem? (i := 808) (by decide +kernel)⟩
theorem lw_p15 : lw_okq (⟨"PaperBread$Texts", "readEnd", "(LPaperBread$Days;)V"⟩, 2) := ⟨⟨by decide +kernel, by decide +kernel⟩, List.mem_of_getElem? (i := 50) (by decide +kernel), List.mem_of_getElem? (i := 821) (by decide +kernel), List.mem_of_getElem? (i := 822) (by decide +kernel)⟩
def lw_privs_1 : List (MethodName × Nat) := [(⟨"PaperBread", "deny", "(I)Z"⟩, 16), (⟨"PaperBread", "grant", "()Z"⟩, 16), (⟨"PaperBread", "refuse", "(I)I"⟩, 16), (⟨"PaperBread$Tokens", "cutWord", "()V"⟩, 11), (⟨"PaperBread$Tokens", "cutNumber", "()V"⟩, 11), (⟨"PaperBread$Texts", "readPerson", "(LPaperBread$Town;)V"⟩, 2), (⟨"PaperBread$Texts", "beginPart", "(IZ)V"⟩, 2), (⟨"PaperBread$Tokens", "seesName", "()Z"⟩, 11), (⟨"PaperBread$Texts", "endsPart", "()Z"⟩, 2), (⟨"PaperBread$Texts", "readOven", "(LPaperBread$Town;)V"⟩, 2), (⟨"PaperBread$Texts", "readLoaf", "(LPaperBread$Town;)V"⟩, 2), (⟨"PaperBread$Texts", "readTownPromise", "(LPaperBread$Town;)V"⟩, 2), (⟨"PaperBread$Texts", "readPromise", "(LPaperBread$Names;)V"⟩, 2), (⟨"PaperBread", "keepFault", "()V"⟩, 16), (⟨"PaperBread", "answer", "(I)I"⟩, 16), (⟨"PaperBread$Texts", "readEnd", "(LPaperBread$Days;)V"⟩, 2)]
theorem lw_r1 : ∀ q ∈ lw_privs_1, lw_okq q := List.forall_mem_cons.mpr ⟨lw_p0, List.forall_mem_cons.mpr ⟨lw_p1, List.forall_mem_cons.mpr ⟨lw_p2, List.forall_mem_cons.mpr ⟨lw_p3, List.forall_mem_cons.mpr ⟨lw_p4, List.forall_mem_cons.mpr ⟨lw_p5, List.forall_mem_cons.mpr ⟨lw_p6, List.forall_mem_cons.mpr ⟨lw_p7, List.forall_mem_cons.mpr ⟨lw_p8, List.forall_mem_cons.mpr ⟨lw_p9, List.forall_mem_cons.mpr ⟨lw_p10, List.forall_mem_cons.mpr ⟨lw_p11, List.forall_mem_cons.mpr ⟨lw_p12, List.forall_mem_cons.mpr ⟨lw_p13, List.forall_mem_cons.mpr ⟨lw_p14, List.forall_mem_cons.mpr ⟨lw_p15, fun _ h => absurd h List.not_mem_nil⟩⟩⟩⟩⟩⟩⟩⟩⟩⟩⟩⟩⟩⟩⟩⟩
theorem lw_p16 : lw_okq (⟨"PaperBread$Texts", "mayStepHere", "(ILPaperBread$Days;)Z"⟩, 2) := ⟨⟨by decide +kernel, by decide +kernel⟩, List.mem_of_getElem? (i := 50) (by decide +kernel), List.mem_of_getElem? (i := 833) (by decide +kernel), List.mem_of_getElem? (i := 834) (by decide +kernel)⟩
theorem lw_p17 : lw_okq (⟨"PaperBread$Texts", "readStep", "(ILPaperBread$Names;)V"⟩, 2) := ⟨⟨by decide +kernel, by decide +kernel⟩, List.mem_of_getElem? (i := 50) (by decide +kernel), List.mem_of_getElem? (i := 843) (by decide +kernel), List.mem_of_getElem? (i := 844) (by decide +kernel)⟩
theorem lw_p18 : lw_okq (⟨"PaperBread$Texts", "readTest", "(LPaperBread$Names;)V"⟩, 2) := ⟨⟨by decide +kernel, by decide +kernel⟩, List.mem_of_getElem? (i := 50) (by decide +kernel), List.mem_of_getElem? (i := 847) (by decide +kernel), List.mem_of_getElem? (i := 848) (by decide +kernel)⟩
theorem lw_p19 : lw_okq (⟨"PaperBread$Texts", "addStep", "(ILPaperBread$Days;)V"⟩, 2) := ⟨⟨by decide +kernel, by decide +kernel⟩, List.mem_of_getElem? (i := 50) (by decide +kernel), List.mem_of_getElem? (i := 855) (by decide +kernel), List.mem_of_getElem? (i := 856) (by decide +kernel)⟩
theorem lw_p20 : lw_okq (⟨"PaperBread$Share", "lineUp", "()V"⟩, 7) := ⟨⟨by decide +kernel, by decide +kernel⟩, List.mem_of_getElem? (i := 360) (by decide +kernel), List.mem_of_getElem? (i := 914) (by decide +kernel), List.mem_of_getElem? (i := 915) (by decide +kernel)⟩
theorem lw_p21 : lw_okq (⟨"PaperBread", "wouldGet", "(IIZ)I"⟩, 16) := ⟨⟨by decide +kernel, by decide +kernel⟩, List.mem_of_getElem? (i := 21) (by decide +kernel), List.mem_of_getElem? (i := 977) (by decide +kernel), List.mem_of_getElem? (i := 978) (by decide +kernel)⟩
theorem lw_p22 : lw_okq (⟨"PaperBread", "tell", "(JJ)V"⟩, 16) := ⟨⟨by decide +kernel, by decide +kernel⟩, List.mem_of_getElem? (i := 21) (by decide +kernel), List.mem_of_getElem? (i := 1004) (by decide +kernel), List.mem_of_getElem? (i := 1005) (by decide +kernel)⟩
theorem lw_p23 : lw_okq (⟨"PaperBread$Netting", "measure", "(LPaperBread$Promises;)V"⟩, 5) := ⟨⟨by decide +kernel, by decide +kernel⟩, List.mem_of_getElem? (i := 397) (by decide +kernel), List.mem_of_getElem? (i := 1034) (by decide +kernel), List.mem_of_getElem? (i := 1035) (by decide +kernel)⟩
theorem lw_p24 : lw_okq (⟨"PaperBread$Netting", "way", "(II)I"⟩, 5) := ⟨⟨by decide +kernel, by decide +kernel⟩, List.mem_of_getElem? (i := 397) (by decide +kernel), List.mem_of_getElem? (i := 1040) (by decide +kernel), List.mem_of_getElem? (i := 1041) (by decide +kernel)⟩
theorem lw_p25 : lw_okq (⟨"PaperBread$Netting", "nextOnWay", "(LPaperBread$Promises;III)I"⟩, 5) := ⟨⟨by decide +kernel, by decide +kernel⟩, List.mem_of_getElem? (i := 397) (by decide +kernel), List.mem_of_getElem? (i := 1044) (by decide +kernel), List.mem_of_getElem? (i := 1045) (by decide +kernel)⟩
theorem lw_p26 : lw_okq (⟨"PaperBread$Share", "gathered", "(I)I"⟩, 7) := ⟨⟨by decide +kernel, by decide +kernel⟩, List.mem_of_getElem? (i := 360) (by decide +kernel), List.mem_of_getElem? (i := 1070) (by decide +kernel), List.mem_of_getElem? (i := 1071) (by decide +kernel)⟩
theorem lw_p27 : lw_okq (⟨"PaperBread", "firstBrokenDay", "(III)I"⟩, 16) := ⟨⟨by decide +kernel, by decide +kernel⟩, List.mem_of_getElem? (i := 21) (by decide +kernel), List.mem_of_getElem? (i := 1098) (by decide +kernel), List.mem_of_getElem? (i := 1099) (by decide +kernel)⟩
theorem lw_p28 : lw_okq (⟨"PaperBread$Living", "goOn", "(LPaperBread$Town;I)I"⟩, 9) := ⟨⟨by decide +kernel, by decide +kernel⟩, List.mem_of_getElem? (i := 421) (by decide +kernel), List.mem_of_getElem? (i := 1192) (by decide +kernel), List.mem_of_getElem? (i := 1193) (by decide +kernel)⟩
theorem lw_p29 : lw_okq (⟨"PaperBread$Living", "behindEnd", "(LPaperBread$Days;I)I"⟩, 9) := ⟨⟨by decide +kernel, by decide +kernel⟩, List.mem_of_getElem? (i := 421) (by decide +kernel), List.mem_of_getElem? (i := 1200) (by decide +kernel), List.mem_of_getElem? (i := 1201) (by decide +kernel)⟩
theorem lw_p30 : lw_okq (⟨"PaperBread$Living", "isDone", "(LPaperBread$Town;II)Z"⟩, 9) := ⟨⟨by decide +kernel, by decide +kernel⟩, List.mem_of_getElem? (i := 421) (by decide +kernel), List.mem_of_getElem? (i := 1213) (by decide +kernel), List.mem_of_getElem? (i := 1214) (by decide +kernel)⟩
theorem lw_p31 : lw_okq (⟨"PaperBread$Living", "hasBaked", "(LPaperBread$Town;I)Z"⟩, 9) := ⟨⟨by decide +kernel, by decide +kernel⟩, List.mem_of_getElem? (i := 421) (by decide +kernel), List.mem_of_getElem? (i := 1219) (by decide +kernel), List.mem_of_getElem? (i := 1220) (by decide +kernel)⟩
def lw_privs_2 : List (MethodName × Nat) := [(⟨"PaperBread$Texts", "mayStepHere", "(ILPaperBread$Days;)Z"⟩, 2), (⟨"PaperBread$Texts", "readStep", "(ILPaperBread$Names;)V"⟩, 2), (⟨"PaperBread$Texts", "readTest", "(LPaperBread$Names;)V"⟩, 2), (⟨"PaperBread$Texts", "addStep", "(ILPaperBread$Days;)V"⟩, 2), (⟨"PaperBread$Share", "lineUp", "()V"⟩, 7), (⟨"PaperBread", "wouldGet", "(IIZ)I"⟩, 16), (⟨"PaperBread", "tell", "(JJ)V"⟩, 16), (⟨"PaperBread$Netting", "measure", "(LPaperBread$Promises;)V"⟩, 5), (⟨"PaperBread$Netting", "way", "(II)I"⟩, 5), (⟨"PaperBread$Netting", "nextOnWay", "(LPaperBread$Promises;III)I"⟩, 5), (⟨"PaperBread$Share", "gathered", "(I)I"⟩, 7), (⟨"PaperBread", "firstBrokenDay", "(III)I"⟩, 16), (⟨"PaperBread$Living", "goOn", "(LPaperBread$Town;I)I"⟩, 9), (⟨"PaperBread$Living", "behindEnd", "(LPaperBread$Days;I)I"⟩, 9), (⟨"PaperBread$Living", "isDone", "(LPaperBread$Town;II)Z"⟩, 9), (⟨"PaperBread$Living", "hasBaked", "(LPaperBread$Town;I)Z"⟩, 9)]
theorem lw_r2 : ∀ q ∈ lw_privs_2, lw_okq q := List.forall_mem_cons.mpr ⟨lw_p16, List.forall_mem_cons.mpr ⟨lw_p17, List.forall_mem_cons.mpr ⟨lw_p18, List.forall_mem_cons.mpr ⟨lw_p19, List.forall_mem_cons.mpr ⟨lw_p20, List.forall_mem_cons.mpr ⟨lw_p21, List.forall_mem_cons.mpr ⟨lw_p22, List.forall_mem_cons.mpr ⟨lw_p23, List.forall_mem_cons.mpr ⟨lw_p24, List.forall_mem_cons.mpr ⟨lw_p25, List.forall_mem_cons.mpr ⟨lw_p26, List.forall_mem_cons.mpr ⟨lw_p27, List.forall_mem_cons.mpr ⟨lw_p28, List.forall_mem_cons.mpr ⟨lw_p29, List.forall_mem_cons.mpr ⟨lw_p30, List.forall_mem_cons.mpr ⟨lw_p31, fun _ h => absurd h List.not_mem_nil⟩⟩⟩⟩⟩⟩⟩⟩⟩⟩⟩⟩⟩⟩⟩⟩
theorem lw_p32 : lw_okq (⟨"PaperBread$Living", "hasWaited", "(LPaperBread$Town;I)Z"⟩, 9) := ⟨⟨by decide +kernel, by decide +kernel⟩, List.mem_of_getElem? (i := 421) (by decide +kernel), List.mem_of_getElem? (i := 1227) (by decide +kernel), List.mem_of_getElem? (i := 1228) (by decide +kernel)⟩
theorem lw_p33 : lw_okq (⟨"PaperBread$Living", "nextDraw", "()I"⟩, 9) := ⟨⟨by decide +kernel, by decide +kernel⟩, List.mem_of_getElem? (i := 421) (by decide +kernel), List.mem_of_getElem? (i := 1231) (by decide +kernel), List.mem_of_getElem? (i := 1232) (by decide +kernel)⟩
theorem lw_p34 : lw_okq (⟨"PaperBreadModel", "no", "(I)Z"⟩, 46) := ⟨⟨by decide +kernel, by decide +kernel⟩, List.mem_of_getElem? (i := 1254) (by decide +kernel), List.mem_of_getElem? (i := 1415) (by decide +kernel), List.mem_of_getElem? (i := 1416) (by decide +kernel)⟩
theorem lw_p35 : lw_okq (⟨"PaperBreadModel", "placed", "(II)I"⟩, 46) := ⟨⟨by decide +kernel, by decide +kernel⟩, List.mem_of_getElem? (i := 1254) (by decide +kernel), List.mem_of_getElem? (i := 1423) (by decide +kernel), List.mem_of_getElem? (i := 1424) (by decide +kernel)⟩
theorem lw_p36 : lw_okq (⟨"PaperBreadModel", "trayed", "(I)I"⟩, 46) := ⟨⟨by decide +kernel, by decide +kernel⟩, List.mem_of_getElem? (i := 1254) (by decide +kernel), List.mem_of_getElem? (i := 1427) (by decide +kernel), List.mem_of_getElem? (i := 1428) (by decide +kernel)⟩
theorem lw_p37 : lw_okq (⟨"PaperBreadModel", "lay", "(I)V"⟩, 46) := ⟨⟨by decide +kernel, by decide +kernel⟩, List.mem_of_getElem? (i := 1254) (by decide +kernel), List.mem_of_getElem? (i := 1447) (by decide +kernel), List.mem_of_getElem? (i := 1448) (by decide +kernel)⟩
theorem lw_p38 : lw_okq (⟨"PaperBreadModel", "opens", "(II)Z"⟩, 46) := ⟨⟨by decide +kernel, by decide +kernel⟩, List.mem_of_getElem? (i := 1254) (by decide +kernel), List.mem_of_getElem? (i := 1459) (by decide +kernel), List.mem_of_getElem? (i := 1460) (by decide +kernel)⟩
theorem lw_p39 : lw_okq (⟨"PaperBreadModel", "next", "()V"⟩, 46) := ⟨⟨by decide +kernel, by decide +kernel⟩, List.mem_of_getElem? (i := 1254) (by decide +kernel), List.mem_of_getElem? (i := 1463) (by decide +kernel), List.mem_of_getElem? (i := 1464) (by decide +kernel)⟩
theorem lw_p40 : lw_okq (⟨"PaperBreadModel", "look2", "(I)I"⟩, 46) := ⟨⟨by decide +kernel, by decide +kernel⟩, List.mem_of_getElem? (i := 1254) (by decide +kernel), List.mem_of_getElem? (i := 1467) (by decide +kernel), List.mem_of_getElem? (i := 1468) (by decide +kernel)⟩
theorem lw_p41 : lw_okq (⟨"PaperBreadModel", "isSignByte", "(I)Z"⟩, 46) := ⟨⟨by decide +kernel, by decide +kernel⟩, List.mem_of_getElem? (i := 1254) (by decide +kernel), List.mem_of_getElem? (i := 1479) (by decide +kernel), List.mem_of_getElem? (i := 1480) (by decide +kernel)⟩
theorem lw_p42 : lw_okq (⟨"PaperBreadModel", "isPerson", "()Z"⟩, 46) := ⟨⟨by decide +kernel, by decide +kernel⟩, List.mem_of_getElem? (i := 1254) (by decide +kernel), List.mem_of_getElem? (i := 1483) (by decide +kernel), List.mem_of_getElem? (i := 1484) (by decide +kernel)⟩
theorem lw_p43 : lw_okq (⟨"PaperBreadModel", "isWord", "(J)Z"⟩, 46) := ⟨⟨by decide +kernel, by decide +kernel⟩, List.mem_of_getElem? (i := 1254) (by decide +kernel), List.mem_of_getElem? (i := 1490) (by decide +kernel), List.mem_of_getElem? (i := 1491) (by decide +kernel)⟩
theorem lw_p44 : lw_okq (⟨"PaperBreadModel", "readPerson", "()V"⟩, 46) := ⟨⟨by decide +kernel, by decide +kernel⟩, List.mem_of_getElem? (i := 1254) (by decide +kernel), List.mem_of_getElem? (i := 1494) (by decide +kernel), List.mem_of_getElem? (i := 1495) (by decide +kernel)⟩
theorem lw_p45 : lw_okq (⟨"PaperBreadModel", "fail", "(II)V"⟩, 46) := ⟨⟨by decide +kernel, by decide +kernel⟩, List.mem_of_getElem? (i := 1254) (by decide +kernel), List.mem_of_getElem? (i := 1498) (by decide +kernel), List.mem_of_getElem? (i := 1499) (by decide +kernel)⟩
theorem lw_p46 : lw_okq (⟨"PaperBreadModel", "readNew", "(I)V"⟩, 46) := ⟨⟨by decide +kernel, by decide +kernel⟩, List.mem_of_getElem? (i := 1254) (by decide +kernel), List.mem_of_getElem? (i := 1502) (by decide +kernel), List.mem_of_getElem? (i := 1503) (by decide +kernel)⟩
theorem lw_p47 : lw_okq (⟨"PaperBreadModel", "isName", "()Z"⟩, 46) := ⟨⟨by decide +kernel, by decide +kernel⟩, List.mem_of_getElem? (i := 1254) (by decide +kernel), List.mem_of_getElem? (i := 1506) (by decide +kernel), List.mem_of_getElem? (i := 1507) (by decide +kernel)⟩
def lw_privs_3 : List (MethodName × Nat) := [(⟨"PaperBread$Living", "hasWaited", "(LPaperBread$Town;I)Z"⟩, 9), (⟨"PaperBread$Living", "nextDraw", "()I"⟩, 9), (⟨"PaperBreadModel", "no", "(I)Z"⟩, 46), (⟨"PaperBreadModel", "placed", "(II)I"⟩, 46), (⟨"PaperBreadModel", "trayed", "(I)I"⟩, 46), (⟨"PaperBreadModel", "lay", "(I)V"⟩, 46), (⟨"PaperBreadModel", "opens", "(II)Z"⟩, 46), (⟨"PaperBreadModel", "next", "()V"⟩, 46), (⟨"PaperBreadModel", "look2", "(I)I"⟩, 46), (⟨"PaperBreadModel", "isSignByte", "(I)Z"⟩, 46), (⟨"PaperBreadModel", "isPerson", "()Z"⟩, 46), (⟨"PaperBreadModel", "isWord", "(J)Z"⟩, 46), (⟨"PaperBreadModel", "readPerson", "()V"⟩, 46), (⟨"PaperBreadModel", "fail", "(II)V"⟩, 46), (⟨"PaperBreadModel", "readNew", "(I)V"⟩, 46), (⟨"PaperBreadModel", "isName", "()Z"⟩, 46)]
theorem lw_r3 : ∀ q ∈ lw_privs_3, lw_okq q := List.forall_mem_cons.mpr ⟨lw_p32, List.forall_mem_cons.mpr ⟨lw_p33, List.forall_mem_cons.mpr ⟨lw_p34, List.forall_mem_cons.mpr ⟨lw_p35, List.forall_mem_cons.mpr ⟨lw_p36, List.forall_mem_cons.mpr ⟨lw_p37, List.forall_mem_cons.mpr ⟨lw_p38, List.forall_mem_cons.mpr ⟨lw_p39, List.forall_mem_cons.mpr ⟨lw_p40, List.forall_mem_cons.mpr ⟨lw_p41, List.forall_mem_cons.mpr ⟨lw_p42, List.forall_mem_cons.mpr ⟨lw_p43, List.forall_mem_cons.mpr ⟨lw_p44, List.forall_mem_cons.mpr ⟨lw_p45, List.forall_mem_cons.mpr ⟨lw_p46, List.forall_mem_cons.mpr ⟨lw_p47, fun _ h => absurd h List.not_mem_nil⟩⟩⟩⟩⟩⟩⟩⟩⟩⟩⟩⟩⟩⟩⟩⟩
theorem lw_p48 : lw_okq (⟨"PaperBreadModel", "isKept", "()Z"⟩, 46) := ⟨⟨by decide +kernel, by decide +kernel⟩, List.mem_of_getElem? (i := 1254) (by decide +kernel), List.mem_of_getElem? (i := 1510) (by decide +kernel), List.mem_of_getElem? (i := 1511) (by decide +kernel)⟩
theorem lw_p49 : lw_okq (⟨"PaperBreadModel", "isPurse", "()Z"⟩, 46) := ⟨⟨by decide +kernel, by decide +kernel⟩, List.mem_of_getElem? (i := 1254) (by decide +kernel), List.mem_of_getElem? (i := 1514) (by decide +kernel), List.mem_of_getElem? (i := 1515) (by decide +kernel)⟩
theorem lw_p50 : lw_okq (⟨"PaperBreadModel", "isOven", "()Z"⟩, 46) := ⟨⟨by decide +kernel, by decide +kernel⟩, List.mem_of_getElem? (i := 1254) (by decide +kernel), List.mem_of_getElem? (i := 1518) (by decide +kernel), List.mem_of_getElem? (i := 1519) (by decide +kernel)⟩
theorem lw_p51 : lw_okq (⟨"PaperBreadModel", "isRain", "()Z"⟩, 46) := ⟨⟨by decide +kernel, by decide +kernel⟩, List.mem_of_getElem? (i := 1254) (by decide +kernel), List.mem_of_getElem? (i := 1522) (by decide +kernel), List.mem_of_getElem? (i := 1523) (by decide +kernel)⟩
theorem lw_p52 : lw_okq (⟨"PaperBreadModel", "isLoaf", "()Z"⟩, 46) := ⟨⟨by decide +kernel, by decide +kernel⟩, List.mem_of_getElem? (i := 1254) (by decide +kernel), List.mem_of_getElem? (i := 1526) (by decide +kernel), List.mem_of_getElem? (i := 1527) (by decide +kernel)⟩
theorem lw_p53 : lw_okq (⟨"PaperBreadModel", "isBy", "()Z"⟩, 46) := ⟨⟨by decide +kernel, by decide +kernel⟩, List.mem_of_getElem? (i := 1254) (by decide +kernel), List.mem_of_getElem? (i := 1530) (by decide +kernel), List.mem_of_getElem? (i := 1531) (by decide +kernel)⟩
theorem lw_p54 : lw_okq (⟨"PaperBreadModel", "isInWord", "()Z"⟩, 46) := ⟨⟨by decide +kernel, by decide +kernel⟩, List.mem_of_getElem? (i := 1254) (by decide +kernel), List.mem_of_getElem? (i := 1534) (by decide +kernel), List.mem_of_getElem? (i := 1535) (by decide +kernel)⟩
theorem lw_p55 : lw_okq (⟨"PaperBreadModel", "isOn", "()Z"⟩, 46) := ⟨⟨by decide +kernel, by decide +kernel⟩, List.mem_of_getElem? (i := 1254) (by decide +kernel), List.mem_of_getElem? (i := 1538) (by decide +kernel), List.mem_of_getElem? (i := 1539) (by decide +kernel)⟩
theorem lw_p56 : lw_okq (⟨"PaperBreadModel", "isSlices", "()Z"⟩, 46) := ⟨⟨by decide +kernel, by decide +kernel⟩, List.mem_of_getElem? (i := 1254) (by decide +kernel), List.mem_of_getElem? (i := 1542) (by decide +kernel), List.mem_of_getElem? (i := 1543) (by decide +kernel)⟩
theorem lw_p57 : lw_okq (⟨"PaperBreadModel", "isFlour", "()Z"⟩, 46) := ⟨⟨by decide +kernel, by decide +kernel⟩, List.mem_of_getElem? (i := 1254) (by decide +kernel), List.mem_of_getElem? (i := 1546) (by decide +kernel), List.mem_of_getElem? (i := 1547) (by decide +kernel)⟩
theorem lw_p58 : lw_okq (⟨"PaperBreadModel", "isOf", "()Z"⟩, 46) := ⟨⟨by decide +kernel, by decide +kernel⟩, List.mem_of_getElem? (i := 1254) (by decide +kernel), List.mem_of_getElem? (i := 1550) (by decide +kernel), List.mem_of_getElem? (i := 1551) (by decide +kernel)⟩
theorem lw_p59 : lw_okq (⟨"PaperBreadModel", "isFrom", "()Z"⟩, 46) := ⟨⟨by decide +kernel, by decide +kernel⟩, List.mem_of_getElem? (i := 1254) (by decide +kernel), List.mem_of_getElem? (i := 1554) (by decide +kernel), List.mem_of_getElem? (i := 1555) (by decide +kernel)⟩
theorem lw_p60 : lw_okq (⟨"PaperBreadModel", "isTo", "()Z"⟩, 46) := ⟨⟨by decide +kernel, by decide +kernel⟩, List.mem_of_getElem? (i := 1254) (by decide +kernel), List.mem_of_getElem? (i := 1558) (by decide +kernel), List.mem_of_getElem? (i := 1559) (by decide +kernel)⟩
theorem lw_p61 : lw_okq (⟨"PaperBreadModel", "isFor", "()Z"⟩, 46) := ⟨⟨by decide +kernel, by decide +kernel⟩, List.mem_of_getElem? (i := 1254) (by decide +kernel), List.mem_of_getElem? (i := 1562) (by decide +kernel), List.mem_of_getElem? (i := 1563) (by decide +kernel)⟩
theorem lw_p62 : lw_okq (⟨"PaperBreadModel", "stepWord", "()I"⟩, 46) := ⟨⟨by decide +kernel, by decide +kernel⟩, List.mem_of_getElem? (i := 1254) (by decide +kernel), List.mem_of_getElem? (i := 1566) (by decide +kernel), List.mem_of_getElem? (i := 1567) (by decide +kernel)⟩
theorem lw_p63 : lw_okq (⟨"PaperBreadModel", "isPromise", "()Z"⟩, 46) := ⟨⟨by decide +kernel, by decide +kernel⟩, List.mem_of_getElem? (i := 1254) (by decide +kernel), List.mem_of_getElem? (i := 1570) (by decide +kernel), List.mem_of_getElem? (i := 1571) (by decide +kernel)⟩
def lw_privs_4 : List (MethodName × Nat) := [(⟨"PaperBreadModel", "isKept", "()Z"⟩, 46), (⟨"PaperBreadModel", "isPurse", "()Z"⟩, 46), (⟨"PaperBreadModel", "isOven", "()Z"⟩, 46), (⟨"PaperBreadModel", "isRain", "()Z"⟩, 46), (⟨"PaperBreadModel", "isLoaf", "()Z"⟩, 46), (⟨"PaperBreadModel", "isBy", "()Z"⟩, 46), (⟨"PaperBreadModel", "isInWord", "()Z"⟩, 46), (⟨"PaperBreadModel", "isOn", "()Z"⟩, 46), (⟨"PaperBreadModel", "isSlices", "()Z"⟩, 46), (⟨"PaperBreadModel", "isFlour", "()Z"⟩, 46), (⟨"PaperBreadModel", "isOf", "()Z"⟩, 46), (⟨"PaperBreadModel", "isFrom", "()Z"⟩, 46), (⟨"PaperBreadModel", "isTo", "()Z"⟩, 46), (⟨"PaperBreadModel", "isFor", "()Z"⟩, 46), (⟨"PaperBreadModel", "stepWord", "()I"⟩, 46), (⟨"PaperBreadModel", "isPromise", "()Z"⟩, 46)]
theorem lw_r4 : ∀ q ∈ lw_privs_4, lw_okq q := List.forall_mem_cons.mpr ⟨lw_p48, List.forall_mem_cons.mpr ⟨lw_p49, List.forall_mem_cons.mpr ⟨lw_p50, List.forall_mem_cons.mpr ⟨lw_p51, List.forall_mem_cons.mpr ⟨lw_p52, List.forall_mem_cons.mpr ⟨lw_p53, List.forall_mem_cons.mpr ⟨lw_p54, List.forall_mem_cons.mpr ⟨lw_p55, List.forall_mem_cons.mpr ⟨lw_p56, List.forall_mem_cons.mpr ⟨lw_p57, List.forall_mem_cons.mpr ⟨lw_p58, List.forall_mem_cons.mpr ⟨lw_p59, List.forall_mem_cons.mpr ⟨lw_p60, List.forall_mem_cons.mpr ⟨lw_p61, List.forall_mem_cons.mpr ⟨lw_p62, List.forall_mem_cons.mpr ⟨lw_p63, fun _ h => absurd h List.not_mem_nil⟩⟩⟩⟩⟩⟩⟩⟩⟩⟩⟩⟩⟩⟩⟩⟩
theorem lw_p64 : lw_okq (⟨"PaperBreadModel", "testWord", "()I"⟩, 46) := ⟨⟨by decide +kernel, by decide +kernel⟩, List.mem_of_getElem? (i := 1254) (by decide +kernel), List.mem_of_getElem? (i := 1575) (by decide +kernel), List.mem_of_getElem? (i := 1576) (by decide +kernel)⟩
theorem lw_p65 : lw_okq (⟨"PaperBreadModel", "isEnd", "()Z"⟩, 46) := ⟨⟨by decide +kernel, by decide +kernel⟩, List.mem_of_getElem? (i := 1254) (by decide +kernel), List.mem_of_getElem? (i := 1579) (by decide +kernel), List.mem_of_getElem? (i := 1580) (by decide +kernel)⟩
theorem lw_p66 : lw_okq (⟨"PaperBreadModel", "wrong", "()V"⟩, 46) := ⟨⟨by decide +kernel, by decide +kernel⟩, List.mem_of_getElem? (i := 1254) (by decide +kernel), List.mem_of_getElem? (i := 1583) (by decide +kernel), List.mem_of_getElem? (i := 1584) (by decide +kernel)⟩
theorem lw_p67 : lw_okq (⟨"PaperBreadModel", "personNamed", "(I)I"⟩, 46) := ⟨⟨by decide +kernel, by decide +kernel⟩, List.mem_of_getElem? (i := 1254) (by decide +kernel), List.mem_of_getElem? (i := 1587) (by decide +kernel), List.mem_of_getElem? (i := 1588) (by decide +kernel)⟩
theorem lw_p68 : lw_okq (⟨"PaperBreadModel", "named", "(III)I"⟩, 46) := ⟨⟨by decide +kernel, by decide +kernel⟩, List.mem_of_getElem? (i := 1254) (by decide +kernel), List.mem_of_getElem? (i := 1591) (by decide +kernel), List.mem_of_getElem? (i := 1592) (by decide +kernel)⟩
theorem lw_p69 : lw_okq (⟨"PaperBreadModel", "ovenNamed", "(I)I"⟩, 46) := ⟨⟨by decide +kernel, by decide +kernel⟩, List.mem_of_getElem? (i := 1254) (by decide +kernel), List.mem_of_getElem? (i := 1595) (by decide +kernel), List.mem_of_getElem? (i := 1596) (by decide +kernel)⟩
theorem lw_p70 : lw_okq (⟨"PaperBreadModel", "loafNamed", "(I)I"⟩, 46) := ⟨⟨by decide +kernel, by decide +kernel⟩, List.mem_of_getElem? (i := 1254) (by decide +kernel), List.mem_of_getElem? (i := 1599) (by decide +kernel), List.mem_of_getElem? (i := 1600) (by decide +kernel)⟩
theorem lw_p71 : lw_okq (⟨"PaperBreadModel", "count", "(II)I"⟩, 46) := ⟨⟨by decide +kernel, by decide +kernel⟩, List.mem_of_getElem? (i := 1254) (by decide +kernel), List.mem_of_getElem? (i := 1603) (by decide +kernel), List.mem_of_getElem? (i := 1604) (by decide +kernel)⟩
theorem lw_p72 : lw_okq (⟨"PaperBreadModel", "readOven", "()V"⟩, 46) := ⟨⟨by decide +kernel, by decide +kernel⟩, List.mem_of_getElem? (i := 1254) (by decide +kernel), List.mem_of_getElem? (i := 1610) (by decide +kernel), List.mem_of_getElem? (i := 1611) (by decide +kernel)⟩
theorem lw_p73 : lw_okq (⟨"PaperBreadModel", "readLoaf", "()V"⟩, 46) := ⟨⟨by decide +kernel, by decide +kernel⟩, List.mem_of_getElem? (i := 1254) (by decide +kernel), List.mem_of_getElem? (i := 1614) (by decide +kernel), List.mem_of_getElem? (i := 1615) (by decide +kernel)⟩
theorem lw_p74 : lw_okq (⟨"PaperBreadModel", "must", "(Z)V"⟩, 46) := ⟨⟨by decide +kernel, by decide +kernel⟩, List.mem_of_getElem? (i := 1254) (by decide +kernel), List.mem_of_getElem? (i := 1618) (by decide +kernel), List.mem_of_getElem? (i := 1619) (by decide +kernel)⟩
theorem lw_p75 : lw_okq (⟨"PaperBreadModel", "readTold", "(II)I"⟩, 46) := ⟨⟨by decide +kernel, by decide +kernel⟩, List.mem_of_getElem? (i := 1254) (by decide +kernel), List.mem_of_getElem? (i := 1622) (by decide +kernel), List.mem_of_getElem? (i := 1623) (by decide +kernel)⟩
theorem lw_p76 : lw_okq (⟨"PaperBreadModel", "told", "(II)I"⟩, 46) := ⟨⟨by decide +kernel, by decide +kernel⟩, List.mem_of_getElem? (i := 1254) (by decide +kernel), List.mem_of_getElem? (i := 1626) (by decide +kernel), List.mem_of_getElem? (i := 1627) (by decide +kernel)⟩
theorem lw_p77 : lw_okq (⟨"PaperBreadModel", "readPromise", "()V"⟩, 46) := ⟨⟨by decide +kernel, by decide +kernel⟩, List.mem_of_getElem? (i := 1254) (by decide +kernel), List.mem_of_getElem? (i := 1631) (by decide +kernel), List.mem_of_getElem? (i := 1632) (by decide +kernel)⟩
theorem lw_p78 : lw_okq (⟨"PaperBreadModel", "readPart", "(II)V"⟩, 46) := ⟨⟨by decide +kernel, by decide +kernel⟩, List.mem_of_getElem? (i := 1254) (by decide +kernel), List.mem_of_getElem? (i := 1635) (by decide +kernel), List.mem_of_getElem? (i := 1636) (by decide +kernel)⟩
theorem lw_p79 : lw_okq (⟨"PaperBreadModel", "isSign", "(I)Z"⟩, 46) := ⟨⟨by decide +kernel, by decide +kernel⟩, List.mem_of_getElem? (i := 1254) (by decide +kernel), List.mem_of_getElem? (i := 1639) (by decide +kernel), List.mem_of_getElem? (i := 1640) (by decide +kernel)⟩
def lw_privs_5 : List (MethodName × Nat) := [(⟨"PaperBreadModel", "testWord", "()I"⟩, 46), (⟨"PaperBreadModel", "isEnd", "()Z"⟩, 46), (⟨"PaperBreadModel", "wrong", "()V"⟩, 46), (⟨"PaperBreadModel", "personNamed", "(I)I"⟩, 46), (⟨"PaperBreadModel", "named", "(III)I"⟩, 46), (⟨"PaperBreadModel", "ovenNamed", "(I)I"⟩, 46), (⟨"PaperBreadModel", "loafNamed", "(I)I"⟩, 46), (⟨"PaperBreadModel", "count", "(II)I"⟩, 46), (⟨"PaperBreadModel", "readOven", "()V"⟩, 46), (⟨"PaperBreadModel", "readLoaf", "()V"⟩, 46), (⟨"PaperBreadModel", "must", "(Z)V"⟩, 46), (⟨"PaperBreadModel", "readTold", "(II)I"⟩, 46), (⟨"PaperBreadModel", "told", "(II)I"⟩, 46), (⟨"PaperBreadModel", "readPromise", "()V"⟩, 46), (⟨"PaperBreadModel", "readPart", "(II)V"⟩, 46), (⟨"PaperBreadModel", "isSign", "(I)Z"⟩, 46)]
theorem lw_r5 : ∀ q ∈ lw_privs_5, lw_okq q := List.forall_mem_cons.mpr ⟨lw_p64, List.forall_mem_cons.mpr ⟨lw_p65, List.forall_mem_cons.mpr ⟨lw_p66, List.forall_mem_cons.mpr ⟨lw_p67, List.forall_mem_cons.mpr ⟨lw_p68, List.forall_mem_cons.mpr ⟨lw_p69, List.forall_mem_cons.mpr ⟨lw_p70, List.forall_mem_cons.mpr ⟨lw_p71, List.forall_mem_cons.mpr ⟨lw_p72, List.forall_mem_cons.mpr ⟨lw_p73, List.forall_mem_cons.mpr ⟨lw_p74, List.forall_mem_cons.mpr ⟨lw_p75, List.forall_mem_cons.mpr ⟨lw_p76, List.forall_mem_cons.mpr ⟨lw_p77, List.forall_mem_cons.mpr ⟨lw_p78, List.forall_mem_cons.mpr ⟨lw_p79, fun _ h => absurd h List.not_mem_nil⟩⟩⟩⟩⟩⟩⟩⟩⟩⟩⟩⟩⟩⟩⟩⟩
theorem lw_p80 : lw_okq (⟨"PaperBreadModel", "isWell", "()Z"⟩, 46) := ⟨⟨by decide +kernel, by decide +kernel⟩, List.mem_of_getElem? (i := 1254) (by decide +kernel), List.mem_of_getElem? (i := 1643) (by decide +kernel), List.mem_of_getElem? (i := 1644) (by decide +kernel)⟩
theorem lw_p81 : lw_okq (⟨"PaperBreadModel", "copy", "(II)V"⟩, 46) := ⟨⟨by decide +kernel, by decide +kernel⟩, List.mem_of_getElem? (i := 1254) (by decide +kernel), List.mem_of_getElem? (i := 1647) (by decide +kernel), List.mem_of_getElem? (i := 1648) (by decide +kernel)⟩
theorem lw_p82 : lw_okq (⟨"PaperBreadModel", "readStep", "(I)V"⟩, 46) := ⟨⟨by decide +kernel, by decide +kernel⟩, List.mem_of_getElem? (i := 1254) (by decide +kernel), List.mem_of_getElem? (i := 1655) (by decide +kernel), List.mem_of_getElem? (i := 1656) (by decide +kernel)⟩
theorem lw_p83 : lw_okq (⟨"PaperBreadModel", "readRest", "(I)V"⟩, 46) := ⟨⟨by decide +kernel, by decide +kernel⟩, List.mem_of_getElem? (i := 1254) (by decide +kernel), List.mem_of_getElem? (i := 1659) (by decide +kernel), List.mem_of_getElem? (i := 1660) (by decide +kernel)⟩
theorem lw_p84 : lw_okq (⟨"PaperBreadModel", "readTest", "(I)V"⟩, 46) := ⟨⟨by decide +kernel, by decide +kernel⟩, List.mem_of_getElem? (i := 1254) (by decide +kernel), List.mem_of_getElem? (i := 1663) (by decide +kernel), List.mem_of_getElem? (i := 1664) (by decide +kernel)⟩
theorem lw_p85 : lw_okq (⟨"PaperBreadModel", "bakedSet", "()I"⟩, 46) := ⟨⟨by decide +kernel, by decide +kernel⟩, List.mem_of_getElem? (i := 1254) (by decide +kernel), List.mem_of_getElem? (i := 1671) (by decide +kernel), List.mem_of_getElem? (i := 1672) (by decide +kernel)⟩
theorem lw_p86 : lw_okq (⟨"PaperBreadModel", "isBaked", "(I)Z"⟩, 46) := ⟨⟨by decide +kernel, by decide +kernel⟩, List.mem_of_getElem? (i := 1254) (by decide +kernel), List.mem_of_getElem? (i := 1675) (by decide +kernel), List.mem_of_getElem? (i := 1676) (by decide +kernel)⟩
theorem lw_p87 : lw_okq (⟨"PaperBreadModel", "refuse", "(I)I"⟩, 46) := ⟨⟨by decide +kernel, by decide +kernel⟩, List.mem_of_getElem? (i := 1254) (by decide +kernel), List.mem_of_getElem? (i := 1679) (by decide +kernel), List.mem_of_getElem? (i := 1680) (by decide +kernel)⟩
theorem lw_p88 : lw_okq (⟨"PaperBreadModel", "isPersonAt", "(I)Z"⟩, 46) := ⟨⟨by decide +kernel, by decide +kernel⟩, List.mem_of_getElem? (i := 1254) (by decide +kernel), List.mem_of_getElem? (i := 1687) (by decide +kernel), List.mem_of_getElem? (i := 1688) (by decide +kernel)⟩
theorem lw_p89 : lw_okq (⟨"PaperBreadModel", "isLoafAt", "(I)Z"⟩, 46) := ⟨⟨by decide +kernel, by decide +kernel⟩, List.mem_of_getElem? (i := 1254) (by decide +kernel), List.mem_of_getElem? (i := 1695) (by decide +kernel), List.mem_of_getElem? (i := 1696) (by decide +kernel)⟩
theorem lw_p90 : lw_okq (⟨"PaperBreadModel", "isPaper", "(I)Z"⟩, 46) := ⟨⟨by decide +kernel, by decide +kernel⟩, List.mem_of_getElem? (i := 1254) (by decide +kernel), List.mem_of_getElem? (i := 1699) (by decide +kernel), List.mem_of_getElem? (i := 1700) (by decide +kernel)⟩
theorem lw_p91 : lw_okq (⟨"PaperBreadModel", "isPromiseAt", "(I)Z"⟩, 46) := ⟨⟨by decide +kernel, by decide +kernel⟩, List.mem_of_getElem? (i := 1254) (by decide +kernel), List.mem_of_getElem? (i := 1707) (by decide +kernel), List.mem_of_getElem? (i := 1708) (by decide +kernel)⟩
theorem lw_p92 : lw_okq (⟨"PaperBreadModel", "holdsOf", "(II)I"⟩, 46) := ⟨⟨by decide +kernel, by decide +kernel⟩, List.mem_of_getElem? (i := 1254) (by decide +kernel), List.mem_of_getElem? (i := 1718) (by decide +kernel), List.mem_of_getElem? (i := 1719) (by decide +kernel)⟩
theorem lw_p93 : lw_okq (⟨"PaperBreadModel", "isOfLoaf", "(II)Z"⟩, 46) := ⟨⟨by decide +kernel, by decide +kernel⟩, List.mem_of_getElem? (i := 1254) (by decide +kernel), List.mem_of_getElem? (i := 1722) (by decide +kernel), List.mem_of_getElem? (i := 1723) (by decide +kernel)⟩
theorem lw_p94 : lw_okq (⟨"PaperBreadModel", "isMade", "(I)Z"⟩, 46) := ⟨⟨by decide +kernel, by decide +kernel⟩, List.mem_of_getElem? (i := 1254) (by decide +kernel), List.mem_of_getElem? (i := 1726) (by decide +kernel), List.mem_of_getElem? (i := 1727) (by decide +kernel)⟩
theorem lw_p95 : lw_okq (⟨"PaperBreadModel", "deepens", "()V"⟩, 46) := ⟨⟨by decide +kernel, by decide +kernel⟩, List.mem_of_getElem? (i := 1254) (by decide +kernel), List.mem_of_getElem? (i := 1734) (by decide +kernel), List.mem_of_getElem? (i := 1735) (by decide +kernel)⟩
def lw_privs_6 : List (MethodName × Nat) := [(⟨"PaperBreadModel", "isWell", "()Z"⟩, 46), (⟨"PaperBreadModel", "copy", "(II)V"⟩, 46), (⟨"PaperBreadModel", "readStep", "(I)V"⟩, 46), (⟨"PaperBreadModel", "readRest", "(I)V"⟩, 46), (⟨"PaperBreadModel", "readTest", "(I)V"⟩, 46), (⟨"PaperBreadModel", "bakedSet", "()I"⟩, 46), (⟨"PaperBreadModel", "isBaked", "(I)Z"⟩, 46), (⟨"PaperBreadModel", "refuse", "(I)I"⟩, 46), (⟨"PaperBreadModel", "isPersonAt", "(I)Z"⟩, 46), (⟨"PaperBreadModel", "isLoafAt", "(I)Z"⟩, 46), (⟨"PaperBreadModel", "isPaper", "(I)Z"⟩, 46), (⟨"PaperBreadModel", "isPromiseAt", "(I)Z"⟩, 46), (⟨"PaperBreadModel", "holdsOf", "(II)I"⟩, 46), (⟨"PaperBreadModel", "isOfLoaf", "(II)Z"⟩, 46), (⟨"PaperBreadModel", "isMade", "(I)Z"⟩, 46), (⟨"PaperBreadModel", "deepens", "()V"⟩, 46)]
theorem lw_r6 : ∀ q ∈ lw_privs_6, lw_okq q := List.forall_mem_cons.mpr ⟨lw_p80, List.forall_mem_cons.mpr ⟨lw_p81, List.forall_mem_cons.mpr ⟨lw_p82, List.forall_mem_cons.mpr ⟨lw_p83, List.forall_mem_cons.mpr ⟨lw_p84, List.forall_mem_cons.mpr ⟨lw_p85, List.forall_mem_cons.mpr ⟨lw_p86, List.forall_mem_cons.mpr ⟨lw_p87, List.forall_mem_cons.mpr ⟨lw_p88, List.forall_mem_cons.mpr ⟨lw_p89, List.forall_mem_cons.mpr ⟨lw_p90, List.forall_mem_cons.mpr ⟨lw_p91, List.forall_mem_cons.mpr ⟨lw_p92, List.forall_mem_cons.mpr ⟨lw_p93, List.forall_mem_cons.mpr ⟨lw_p94, List.forall_mem_cons.mpr ⟨lw_p95, fun _ h => absurd h List.not_mem_nil⟩⟩⟩⟩⟩⟩⟩⟩⟩⟩⟩⟩⟩⟩⟩⟩
theorem lw_p96 : lw_okq (⟨"PaperBreadModel", "turnOf", "(II)I"⟩, 46) := ⟨⟨by decide +kernel, by decide +kernel⟩, List.mem_of_getElem? (i := 1254) (by decide +kernel), List.mem_of_getElem? (i := 1746) (by decide +kernel), List.mem_of_getElem? (i := 1747) (by decide +kernel)⟩
theorem lw_p97 : lw_okq (⟨"PaperBreadModel", "lines", "(I)V"⟩, 46) := ⟨⟨by decide +kernel, by decide +kernel⟩, List.mem_of_getElem? (i := 1254) (by decide +kernel), List.mem_of_getElem? (i := 1755) (by decide +kernel), List.mem_of_getElem? (i := 1756) (by decide +kernel)⟩
theorem lw_p98 : lw_okq (⟨"PaperBreadModel", "deals", "(IZ)V"⟩, 46) := ⟨⟨by decide +kernel, by decide +kernel⟩, List.mem_of_getElem? (i := 1254) (by decide +kernel), List.mem_of_getElem? (i := 1763) (by decide +kernel), List.mem_of_getElem? (i := 1764) (by decide +kernel)⟩
theorem lw_p99 : lw_okq (⟨"PaperBreadModel", "comes", "(IZ)I"⟩, 46) := ⟨⟨by decide +kernel, by decide +kernel⟩, List.mem_of_getElem? (i := 1254) (by decide +kernel), List.mem_of_getElem? (i := 1767) (by decide +kernel), List.mem_of_getElem? (i := 1768) (by decide +kernel)⟩
theorem lw_p100 : lw_okq (⟨"PaperBreadModel", "getsOf", "(IIZ)I"⟩, 46) := ⟨⟨by decide +kernel, by decide +kernel⟩, List.mem_of_getElem? (i := 1254) (by decide +kernel), List.mem_of_getElem? (i := 1776) (by decide +kernel), List.mem_of_getElem? (i := 1777) (by decide +kernel)⟩
theorem lw_p101 : lw_okq (⟨"PaperBreadModel", "unmet", "(IZ)I"⟩, 46) := ⟨⟨by decide +kernel, by decide +kernel⟩, List.mem_of_getElem? (i := 1254) (by decide +kernel), List.mem_of_getElem? (i := 1784) (by decide +kernel), List.mem_of_getElem? (i := 1785) (by decide +kernel)⟩
theorem lw_p102 : lw_okq (⟨"PaperBreadModel", "owesOf", "(II)I"⟩, 46) := ⟨⟨by decide +kernel, by decide +kernel⟩, List.mem_of_getElem? (i := 1254) (by decide +kernel), List.mem_of_getElem? (i := 1788) (by decide +kernel), List.mem_of_getElem? (i := 1789) (by decide +kernel)⟩
theorem lw_p103 : lw_okq (⟨"PaperBreadModel", "fraction", "(JJ)Z"⟩, 46) := ⟨⟨by decide +kernel, by decide +kernel⟩, List.mem_of_getElem? (i := 1254) (by decide +kernel), List.mem_of_getElem? (i := 1797) (by decide +kernel), List.mem_of_getElem? (i := 1798) (by decide +kernel)⟩
theorem lw_p104 : lw_okq (⟨"PaperBreadModel", "netOf", "(I)I"⟩, 46) := ⟨⟨by decide +kernel, by decide +kernel⟩, List.mem_of_getElem? (i := 1254) (by decide +kernel), List.mem_of_getElem? (i := 1816) (by decide +kernel), List.mem_of_getElem? (i := 1817) (by decide +kernel)⟩
theorem lw_p105 : lw_okq (⟨"PaperBreadModel", "goesRound", "(III)Z"⟩, 46) := ⟨⟨by decide +kernel, by decide +kernel⟩, List.mem_of_getElem? (i := 1254) (by decide +kernel), List.mem_of_getElem? (i := 1831) (by decide +kernel), List.mem_of_getElem? (i := 1832) (by decide +kernel)⟩
theorem lw_p106 : lw_okq (⟨"PaperBreadModel", "isOpen", "(I)Z"⟩, 46) := ⟨⟨by decide +kernel, by decide +kernel⟩, List.mem_of_getElem? (i := 1254) (by decide +kernel), List.mem_of_getElem? (i := 1844) (by decide +kernel), List.mem_of_getElem? (i := 1845) (by decide +kernel)⟩
theorem lw_p107 : lw_okq (⟨"PaperBreadModel", "isHeld", "(I)Z"⟩, 46) := ⟨⟨by decide +kernel, by decide +kernel⟩, List.mem_of_getElem? (i := 1254) (by decide +kernel), List.mem_of_getElem? (i := 1852) (by decide +kernel), List.mem_of_getElem? (i := 1853) (by decide +kernel)⟩
theorem lw_p108 : lw_okq (⟨"PaperBreadModel", "isTray", "(I)Z"⟩, 46) := ⟨⟨by decide +kernel, by decide +kernel⟩, List.mem_of_getElem? (i := 1254) (by decide +kernel), List.mem_of_getElem? (i := 1860) (by decide +kernel), List.mem_of_getElem? (i := 1861) (by decide +kernel)⟩
theorem lw_p109 : lw_okq (⟨"PaperBreadModel", "numberOf", "(II)J"⟩, 46) := ⟨⟨by decide +kernel, by decide +kernel⟩, List.mem_of_getElem? (i := 1254) (by decide +kernel), List.mem_of_getElem? (i := 1866) (by decide +kernel), List.mem_of_getElem? (i := 1867) (by decide +kernel)⟩
theorem lw_p110 : lw_okq (⟨"PaperBreadModel", "makes", "(IIIII)I"⟩, 46) := ⟨⟨by decide +kernel, by decide +kernel⟩, List.mem_of_getElem? (i := 1254) (by decide +kernel), List.mem_of_getElem? (i := 1894) (by decide +kernel), List.mem_of_getElem? (i := 1895) (by decide +kernel)⟩
theorem lw_p111 : lw_okq (⟨"PaperBreadModel", "breaks", "(I)Z"⟩, 46) := ⟨⟨by decide +kernel, by decide +kernel⟩, List.mem_of_getElem? (i := 1254) (by decide +kernel), List.mem_of_getElem? (i := 1902) (by decide +kernel), List.mem_of_getElem? (i := 1903) (by decide +kernel)⟩
def lw_privs_7 : List (MethodName × Nat) := [(⟨"PaperBreadModel", "turnOf", "(II)I"⟩, 46), (⟨"PaperBreadModel", "lines", "(I)V"⟩, 46), (⟨"PaperBreadModel", "deals", "(IZ)V"⟩, 46), (⟨"PaperBreadModel", "comes", "(IZ)I"⟩, 46), (⟨"PaperBreadModel", "getsOf", "(IIZ)I"⟩, 46), (⟨"PaperBreadModel", "unmet", "(IZ)I"⟩, 46), (⟨"PaperBreadModel", "owesOf", "(II)I"⟩, 46), (⟨"PaperBreadModel", "fraction", "(JJ)Z"⟩, 46), (⟨"PaperBreadModel", "netOf", "(I)I"⟩, 46), (⟨"PaperBreadModel", "goesRound", "(III)Z"⟩, 46), (⟨"PaperBreadModel", "isOpen", "(I)Z"⟩, 46), (⟨"PaperBreadModel", "isHeld", "(I)Z"⟩, 46), (⟨"PaperBreadModel", "isTray", "(I)Z"⟩, 46), (⟨"PaperBreadModel", "numberOf", "(II)J"⟩, 46), (⟨"PaperBreadModel", "makes", "(IIIII)I"⟩, 46), (⟨"PaperBreadModel", "breaks", "(I)Z"⟩, 46)]
theorem lw_r7 : ∀ q ∈ lw_privs_7, lw_okq q := List.forall_mem_cons.mpr ⟨lw_p96, List.forall_mem_cons.mpr ⟨lw_p97, List.forall_mem_cons.mpr ⟨lw_p98, List.forall_mem_cons.mpr ⟨lw_p99, List.forall_mem_cons.mpr ⟨lw_p100, List.forall_mem_cons.mpr ⟨lw_p101, List.forall_mem_cons.mpr ⟨lw_p102, List.forall_mem_cons.mpr ⟨lw_p103, List.forall_mem_cons.mpr ⟨lw_p104, List.forall_mem_cons.mpr ⟨lw_p105, List.forall_mem_cons.mpr ⟨lw_p106, List.forall_mem_cons.mpr ⟨lw_p107, List.forall_mem_cons.mpr ⟨lw_p108, List.forall_mem_cons.mpr ⟨lw_p109, List.forall_mem_cons.mpr ⟨lw_p110, List.forall_mem_cons.mpr ⟨lw_p111, fun _ h => absurd h List.not_mem_nil⟩⟩⟩⟩⟩⟩⟩⟩⟩⟩⟩⟩⟩⟩⟩⟩
theorem lw_p112 : lw_okq (⟨"PaperBreadModel", "bakes", "(I)I"⟩, 46) := ⟨⟨by decide +kernel, by decide +kernel⟩, List.mem_of_getElem? (i := 1254) (by decide +kernel), List.mem_of_getElem? (i := 1910) (by decide +kernel), List.mem_of_getElem? (i := 1911) (by decide +kernel)⟩
theorem lw_p113 : lw_okq (⟨"PaperBreadModel", "isWetOven", "(I)Z"⟩, 46) := ⟨⟨by decide +kernel, by decide +kernel⟩, List.mem_of_getElem? (i := 1254) (by decide +kernel), List.mem_of_getElem? (i := 1914) (by decide +kernel), List.mem_of_getElem? (i := 1915) (by decide +kernel)⟩
theorem lw_p114 : lw_okq (⟨"PaperBreadModel", "eats", "(II)I"⟩, 46) := ⟨⟨by decide +kernel, by decide +kernel⟩, List.mem_of_getElem? (i := 1254) (by decide +kernel), List.mem_of_getElem? (i := 1927) (by decide +kernel), List.mem_of_getElem? (i := 1928) (by decide +kernel)⟩
theorem lw_p115 : lw_okq (⟨"PaperBreadModel", "pays", "(III)Z"⟩, 46) := ⟨⟨by decide +kernel, by decide +kernel⟩, List.mem_of_getElem? (i := 1254) (by decide +kernel), List.mem_of_getElem? (i := 1935) (by decide +kernel), List.mem_of_getElem? (i := 1936) (by decide +kernel)⟩
theorem lw_p116 : lw_okq (⟨"PaperBreadModel", "lives", "(I)V"⟩, 46) := ⟨⟨by decide +kernel, by decide +kernel⟩, List.mem_of_getElem? (i := 1254) (by decide +kernel), List.mem_of_getElem? (i := 1943) (by decide +kernel), List.mem_of_getElem? (i := 1944) (by decide +kernel)⟩
theorem lw_p117 : lw_okq (⟨"PaperBreadModel", "doAll", "(II)V"⟩, 46) := ⟨⟨by decide +kernel, by decide +kernel⟩, List.mem_of_getElem? (i := 1254) (by decide +kernel), List.mem_of_getElem? (i := 1947) (by decide +kernel), List.mem_of_getElem? (i := 1948) (by decide +kernel)⟩
theorem lw_p118 : lw_okq (⟨"PaperBreadModel", "doOne", "(I)V"⟩, 46) := ⟨⟨by decide +kernel, by decide +kernel⟩, List.mem_of_getElem? (i := 1254) (by decide +kernel), List.mem_of_getElem? (i := 1951) (by decide +kernel), List.mem_of_getElem? (i := 1952) (by decide +kernel)⟩
theorem lw_p119 : lw_okq (⟨"PaperBreadModel", "does", "(I)Z"⟩, 46) := ⟨⟨by decide +kernel, by decide +kernel⟩, List.mem_of_getElem? (i := 1254) (by decide +kernel), List.mem_of_getElem? (i := 1955) (by decide +kernel), List.mem_of_getElem? (i := 1956) (by decide +kernel)⟩
theorem lw_p120 : lw_okq (⟨"PaperBreadModel", "waits", "(I)Z"⟩, 46) := ⟨⟨by decide +kernel, by decide +kernel⟩, List.mem_of_getElem? (i := 1254) (by decide +kernel), List.mem_of_getElem? (i := 1959) (by decide +kernel), List.mem_of_getElem? (i := 1960) (by decide +kernel)⟩
theorem lw_p121 : lw_okq (⟨"PaperBreadModel", "draw", "()I"⟩, 46) := ⟨⟨by decide +kernel, by decide +kernel⟩, List.mem_of_getElem? (i := 1254) (by decide +kernel), List.mem_of_getElem? (i := 1963) (by decide +kernel), List.mem_of_getElem? (i := 1964) (by decide +kernel)⟩
theorem lw_p122 : lw_okq (⟨"PaperBreadModel", "isSo", "(I)Z"⟩, 46) := ⟨⟨by decide +kernel, by decide +kernel⟩, List.mem_of_getElem? (i := 1254) (by decide +kernel), List.mem_of_getElem? (i := 1968) (by decide +kernel), List.mem_of_getElem? (i := 1969) (by decide +kernel)⟩
def lw_privs_8 : List (MethodName × Nat) := [(⟨"PaperBreadModel", "bakes", "(I)I"⟩, 46), (⟨"PaperBreadModel", "isWetOven", "(I)Z"⟩, 46), (⟨"PaperBreadModel", "eats", "(II)I"⟩, 46), (⟨"PaperBreadModel", "pays", "(III)Z"⟩, 46), (⟨"PaperBreadModel", "lives", "(I)V"⟩, 46), (⟨"PaperBreadModel", "doAll", "(II)V"⟩, 46), (⟨"PaperBreadModel", "doOne", "(I)V"⟩, 46), (⟨"PaperBreadModel", "does", "(I)Z"⟩, 46), (⟨"PaperBreadModel", "waits", "(I)Z"⟩, 46), (⟨"PaperBreadModel", "draw", "()I"⟩, 46), (⟨"PaperBreadModel", "isSo", "(I)Z"⟩, 46)]
theorem lw_r8 : ∀ q ∈ lw_privs_8, lw_okq q := List.forall_mem_cons.mpr ⟨lw_p112, List.forall_mem_cons.mpr ⟨lw_p113, List.forall_mem_cons.mpr ⟨lw_p114, List.forall_mem_cons.mpr ⟨lw_p115, List.forall_mem_cons.mpr ⟨lw_p116, List.forall_mem_cons.mpr ⟨lw_p117, List.forall_mem_cons.mpr ⟨lw_p118, List.forall_mem_cons.mpr ⟨lw_p119, List.forall_mem_cons.mpr ⟨lw_p120, List.forall_mem_cons.mpr ⟨lw_p121, List.forall_mem_cons.mpr ⟨lw_p122, fun _ h => absurd h List.not_mem_nil⟩⟩⟩⟩⟩⟩⟩⟩⟩⟩⟩
def lw_privs : List (MethodName × Nat) := lw_privs_1 ++ (lw_privs_2 ++ (lw_privs_3 ++ (lw_privs_4 ++ (lw_privs_5 ++ (lw_privs_6 ++ (lw_privs_7 ++ (lw_privs_8)))))))
def lw_tbl : List Cond := k2_sels lw_privs ++ tables_1
theorem lw_privs_ok : ∀ q ∈ lw_privs, lw_okq q := by
  show ∀ q ∈ lw_privs_1 ++ (lw_privs_2 ++ (lw_privs_3 ++ (lw_privs_4 ++ (lw_privs_5 ++ (lw_privs_6 ++ (lw_privs_7 ++ (lw_privs_8))))))), lw_okq q
  exact List.forall_mem_append.mpr ⟨lw_r1, List.forall_mem_append.mpr ⟨lw_r2, List.forall_mem_append.mpr ⟨lw_r3, List.forall_mem_append.mpr ⟨lw_r4, List.forall_mem_append.mpr ⟨lw_r5, List.forall_mem_append.mpr ⟨lw_r6, List.forall_mem_append.mpr ⟨lw_r7, lw_r8⟩⟩⟩⟩⟩⟩⟩

def RX0 : String := "PaperBread$Days"
def TX0 : u_T := fun k => match k with
  | 0 => ("PaperBread$Days", "cells", "[I", true)
  | 1 => ("PaperBread$Days", "begun", "[I", true)
  | 2 => ("PaperBread$Days", "within", "I", false)
  | 3 => ("PaperBread$Days", "rows", "I", false)
  | 4 => ("PaperBread$Days", "steps", "I", false)
  | _ => ("PaperBread$Days", "written", "Z", false)
def tyX0 : Nat → FieldType := fun k => match k with
  | 0 => .array .int
  | 1 => .array .int
  | 2 => .int
  | 3 => .int
  | 4 => .int
  | _ => .boolean
abbrev wsX00 : List Cond := u_ws RX0 TX0 6
theorem nmX0 : ∀ a, a < 6 → ∀ b, b < 6 → a ≠ b → (TX0 a).2.1 ≠ (TX0 b).2.1 := by decide +kernel
theorem tyX0_ok : ∀ k, k < 6 → parseFieldDescriptor (TX0 k).2.2.1 = some (tyX0 k) := by decide +kernel
abbrev cX0_init : ByteArray := prog_2_method_1_code
def yX0_init : MethodName := ⟨RX0, "<init>", "()V"⟩
abbrev cX0_clear : ByteArray := prog_2_method_2_code
def yX0_clear : MethodName := ⟨RX0, "clear", "()V"⟩
abbrev cX0_copyOf : ByteArray := prog_2_method_3_code
def yX0_copyOf : MethodName := ⟨RX0, "copyOf", "(LPaperBread$Days;)V"⟩
abbrev cX0_cell : ByteArray := prog_2_method_4_code
def yX0_cell : MethodName := ⟨RX0, "cell", "(II)I"⟩
abbrev cX0_add : ByteArray := prog_2_method_5_code
def yX0_add : MethodName := ⟨RX0, "add", "(I[I)V"⟩
abbrev cX0_begin : ByteArray := prog_2_method_6_code
def yX0_begin : MethodName := ⟨RX0, "begin", "()V"⟩
abbrev cX0_close : ByteArray := prog_2_method_7_code
def yX0_close : MethodName := ⟨RX0, "close", "([I)V"⟩
def RX1 : String := "PaperBread$Living"
def TX1 : u_T := fun k => match k with
  | 0 => ("PaperBread$Living", "share", "LPaperBread$Share;", true)
  | 1 => ("PaperBread$Living", "rounds", "[I", true)
  | 2 => ("PaperBread$Living", "drawn", "I", false)
  | 3 => ("PaperBread$Living", "steps", "I", false)
  | 4 => ("PaperBread$Living", "missed", "I", false)
  | 5 => ("PaperBread$Living", "slicesBaked", "I", false)
  | 6 => ("PaperBread$Living", "eaten", "I", false)
  | 7 => ("PaperBread$Living", "wetLoaves", "I", false)
  | _ => ("PaperBread$Living", "cutShort", "Z", false)
def tyX1 : Nat → FieldType := fun k => match k with
  | 0 => .object "PaperBread$Share"
  | 1 => .array .int
  | 2 => .int
  | 3 => .int
  | 4 => .int
  | 5 => .int
  | 6 => .int
  | 7 => .int
  | _ => .boolean
abbrev wsX10 : List Cond := u_ws RX1 TX1 9
theorem nmX1 : ∀ a, a < 9 → ∀ b, b < 9 → a ≠ b → (TX1 a).2.1 ≠ (TX1 b).2.1 := by decide +kernel
theorem tyX1_ok : ∀ k, k < 9 → parseFieldDescriptor (TX1 k).2.2.1 = some (tyX1 k) := by decide +kernel
abbrev cX1_init : ByteArray := prog_3_method_1_code
def yX1_init : MethodName := ⟨RX1, "<init>", "()V"⟩
abbrev cX1_run : ByteArray := prog_3_method_2_code
def yX1_run : MethodName := ⟨RX1, "run", "(LPaperBread$Town;I)V"⟩
abbrev cX1_goOn : ByteArray := prog_3_method_3_code
def yX1_goOn : MethodName := ⟨RX1, "goOn", "(LPaperBread$Town;I)I"⟩
abbrev cX1_behindEnd : ByteArray := prog_3_method_4_code
def yX1_behindEnd : MethodName := ⟨RX1, "behindEnd", "(LPaperBread$Days;I)I"⟩
abbrev cX1_isTrue : ByteArray := prog_3_method_5_code
def yX1_isTrue : MethodName := ⟨RX1, "isTrue", "(LPaperBread$Town;I)Z"⟩
abbrev cX1_compares : ByteArray := prog_3_method_6_code
def yX1_compares : MethodName := ⟨RX1, "compares", "(III)Z"⟩
abbrev cX1_isDone : ByteArray := prog_3_method_7_code
def yX1_isDone : MethodName := ⟨RX1, "isDone", "(LPaperBread$Town;II)Z"⟩
abbrev cX1_hasBaked : ByteArray := prog_3_method_8_code
def yX1_hasBaked : MethodName := ⟨RX1, "hasBaked", "(LPaperBread$Town;I)Z"⟩
abbrev cX1_hasWaited : ByteArray := prog_3_method_9_code
def yX1_hasWaited : MethodName := ⟨RX1, "hasWaited", "(LPaperBread$Town;I)Z"⟩
abbrev cX1_nextDraw : ByteArray := prog_3_method_10_code
def yX1_nextDraw : MethodName := ⟨RX1, "nextDraw", "()I"⟩
def RX2 : String := "PaperBread$Names"
def TX2 : u_T := fun k => match k with
  | _ => ("PaperBread$Names", "known", "[J", true)
def tyX2 : Nat → FieldType := fun k => match k with
  | _ => .array .long
abbrev wsX20 : List Cond := u_ws RX2 TX2 1
theorem nmX2 : ∀ a, a < 1 → ∀ b, b < 1 → a ≠ b → (TX2 a).2.1 ≠ (TX2 b).2.1 := by decide +kernel
theorem tyX2_ok : ∀ k, k < 1 → parseFieldDescriptor (TX2 k).2.2.1 = some (tyX2 k) := by decide +kernel
abbrev cX2_init : ByteArray := prog_4_method_1_code
def yX2_init : MethodName := ⟨RX2, "<init>", "()V"⟩
abbrev cX2_clear : ByteArray := prog_4_method_2_code
def yX2_clear : MethodName := ⟨RX2, "clear", "()V"⟩
abbrev cX2_copyOf : ByteArray := prog_4_method_3_code
def yX2_copyOf : MethodName := ⟨RX2, "copyOf", "(LPaperBread$Names;)V"⟩
abbrev cX2_give : ByteArray := prog_4_method_4_code
def yX2_give : MethodName := ⟨RX2, "give", "(IIJ)V"⟩
abbrev cX2_numberOf : ByteArray := prog_4_method_5_code
def yX2_numberOf : MethodName := ⟨RX2, "numberOf", "(IJ)I"⟩
abbrev cX2_isTaken : ByteArray := prog_4_method_6_code
def yX2_isTaken : MethodName := ⟨RX2, "isTaken", "(J)Z"⟩
def RX3 : String := "PaperBread$Netting"
def TX3 : u_T := fun k => match k with
  | 0 => ("PaperBread$Netting", "sums", "[I", true)
  | 1 => ("PaperBread$Netting", "groups", "[I", true)
  | 2 => ("PaperBread$Netting", "steps", "[I", true)
  | 3 => ("PaperBread$Netting", "found", "[I", true)
  | _ => ("PaperBread$Netting", "ringLength", "I", false)
def tyX3 : Nat → FieldType := fun k => match k with
  | 0 => .array .int
  | 1 => .array .int
  | 2 => .array .int
  | 3 => .array .int
  | _ => .int
abbrev wsX30 : List Cond := u_ws RX3 TX3 5
theorem nmX3 : ∀ a, a < 5 → ∀ b, b < 5 → a ≠ b → (TX3 a).2.1 ≠ (TX3 b).2.1 := by decide +kernel
theorem tyX3_ok : ∀ k, k < 5 → parseFieldDescriptor (TX3 k).2.2.1 = some (tyX3 k) := by decide +kernel
abbrev cX3_init : ByteArray := prog_5_method_1_code
def yX3_init : MethodName := ⟨RX3, "<init>", "()V"⟩
abbrev cX3_fewestHandOvers : ByteArray := prog_5_method_2_code
def yX3_fewestHandOvers : MethodName := ⟨RX3, "fewestHandOvers", "(LPaperBread$Town;)I"⟩
abbrev cX3_findRing : ByteArray := prog_5_method_3_code
def yX3_findRing : MethodName := ⟨RX3, "findRing", "(LPaperBread$Promises;)I"⟩
abbrev cX3_nextOnWay : ByteArray := prog_5_method_4_code
def yX3_nextOnWay : MethodName := ⟨RX3, "nextOnWay", "(LPaperBread$Promises;III)I"⟩
abbrev cX3_way : ByteArray := prog_5_method_5_code
def yX3_way : MethodName := ⟨RX3, "way", "(II)I"⟩
abbrev cX3_measure : ByteArray := prog_5_method_6_code
def yX3_measure : MethodName := ⟨RX3, "measure", "(LPaperBread$Promises;)V"⟩
def RX4 : String := "PaperBread$Promises"
def TX4 : u_T := fun k => match k with
  | 0 => ("PaperBread$Promises", "slices", "[I", true)
  | 1 => ("PaperBread$Promises", "loaf", "[I", true)
  | 2 => ("PaperBread$Promises", "giver", "[I", true)
  | 3 => ("PaperBread$Promises", "taker", "[I", true)
  | 4 => ("PaperBread$Promises", "price", "[I", true)
  | 5 => ("PaperBread$Promises", "gone", "[Z", true)
  | 6 => ("PaperBread$Promises", "ownDepth", "[I", true)
  | 7 => ("PaperBread$Promises", "reached", "[I", true)
  | _ => ("PaperBread$Promises", "count", "I", false)
def tyX4 : Nat → FieldType := fun k => match k with
  | 0 => .array .int
  | 1 => .array .int
  | 2 => .array .int
  | 3 => .array .int
  | 4 => .array .int
  | 5 => .array .boolean
  | 6 => .array .int
  | 7 => .array .int
  | _ => .int
abbrev wsX40 : List Cond := u_ws RX4 TX4 9
theorem nmX4 : ∀ a, a < 9 → ∀ b, b < 9 → a ≠ b → (TX4 a).2.1 ≠ (TX4 b).2.1 := by decide +kernel
theorem tyX4_ok : ∀ k, k < 9 → parseFieldDescriptor (TX4 k).2.2.1 = some (tyX4 k) := by decide +kernel
abbrev cX4_init : ByteArray := prog_6_method_1_code
def yX4_init : MethodName := ⟨RX4, "<init>", "()V"⟩
abbrev cX4_copyOf : ByteArray := prog_6_method_2_code
def yX4_copyOf : MethodName := ⟨RX4, "copyOf", "(LPaperBread$Promises;)V"⟩
abbrev cX4_has : ByteArray := prog_6_method_3_code
def yX4_has : MethodName := ⟨RX4, "has", "(I)Z"⟩
abbrev cX4_hasRoom : ByteArray := prog_6_method_4_code
def yX4_hasRoom : MethodName := ⟨RX4, "hasRoom", "()Z"⟩
abbrev cX4_stands : ByteArray := prog_6_method_5_code
def yX4_stands : MethodName := ⟨RX4, "stands", "(I)Z"⟩
abbrev cX4_deepest : ByteArray := prog_6_method_6_code
def yX4_deepest : MethodName := ⟨RX4, "deepest", "(II)I"⟩
abbrev cX4_handed : ByteArray := prog_6_method_7_code
def yX4_handed : MethodName := ⟨RX4, "handed", "(II)I"⟩
abbrev cX4_surplus : ByteArray := prog_6_method_8_code
def yX4_surplus : MethodName := ⟨RX4, "surplus", "(I)I"⟩
def RX5 : String := "PaperBread$Share"
def TX5 : u_T := fun k => match k with
  | 0 => ("PaperBread$Share", "held", "[I", true)
  | 1 => ("PaperBread$Share", "since", "[I", true)
  | 2 => ("PaperBread$Share", "queue", "[I", true)
  | 3 => ("PaperBread$Share", "got", "[I", true)
  | 4 => ("PaperBread$Share", "disgrace", "[I", true)
  | 5 => ("PaperBread$Share", "fromLoaf", "[I", true)
  | _ => ("PaperBread$Share", "waiting", "I", false)
def tyX5 : Nat → FieldType := fun k => match k with
  | 0 => .array .int
  | 1 => .array .int
  | 2 => .array .int
  | 3 => .array .int
  | 4 => .array .int
  | 5 => .array .int
  | _ => .int
abbrev wsX50 : List Cond := u_ws RX5 TX5 7
theorem nmX5 : ∀ a, a < 7 → ∀ b, b < 7 → a ≠ b → (TX5 a).2.1 ≠ (TX5 b).2.1 := by decide +kernel
theorem tyX5_ok : ∀ k, k < 7 → parseFieldDescriptor (TX5 k).2.2.1 = some (tyX5 k) := by decide +kernel
abbrev cX5_init : ByteArray := prog_7_method_1_code
def yX5_init : MethodName := ⟨RX5, "<init>", "()V"⟩
abbrev cX5_weigh : ByteArray := prog_7_method_2_code
def yX5_weigh : MethodName := ⟨RX5, "weigh", "(LPaperBread$Town;I)V"⟩
abbrev cX5_lineUp : ByteArray := prog_7_method_3_code
def yX5_lineUp : MethodName := ⟨RX5, "lineUp", "()V"⟩
abbrev cX5_deal : ByteArray := prog_7_method_4_code
def yX5_deal : MethodName := ⟨RX5, "deal", "(I)V"⟩
abbrev cX5_ownerOf : ByteArray := prog_7_method_5_code
def yX5_ownerOf : MethodName := ⟨RX5, "ownerOf", "(I)I"⟩
abbrev cX5_settle : ByteArray := prog_7_method_6_code
def yX5_settle : MethodName := ⟨RX5, "settle", "(LPaperBread$Town;IZ)V"⟩
abbrev cX5_othersHold : ByteArray := prog_7_method_7_code
def yX5_othersHold : MethodName := ⟨RX5, "othersHold", "(I)Z"⟩
abbrev cX5_gather : ByteArray := prog_7_method_8_code
def yX5_gather : MethodName := ⟨RX5, "gather", "(LPaperBread$Town;I)V"⟩
abbrev cX5_cheapestSet : ByteArray := prog_7_method_9_code
def yX5_cheapestSet : MethodName := ⟨RX5, "cheapestSet", "(LPaperBread$Town;I)I"⟩
abbrev cX5_gathered : ByteArray := prog_7_method_10_code
def yX5_gathered : MethodName := ⟨RX5, "gathered", "(I)I"⟩
def RX6 : String := "PaperBread$Texts"
def TX6 : u_T := fun k => match k with
  | 0 => ("PaperBread$Texts", "tokens", "LPaperBread$Tokens;", true)
  | _ => ("PaperBread$Texts", "facts", "[I", true)
def tyX6 : Nat → FieldType := fun k => match k with
  | 0 => .object "PaperBread$Tokens"
  | _ => .array .int
abbrev wsX60 : List Cond := u_ws RX6 TX6 2
theorem nmX6 : ∀ a, a < 2 → ∀ b, b < 2 → a ≠ b → (TX6 a).2.1 ≠ (TX6 b).2.1 := by decide +kernel
theorem tyX6_ok : ∀ k, k < 2 → parseFieldDescriptor (TX6 k).2.2.1 = some (tyX6 k) := by decide +kernel
abbrev cX6_init : ByteArray := prog_8_method_1_code
def yX6_init : MethodName := ⟨RX6, "<init>", "()V"⟩
abbrev cX6_readTown : ByteArray := prog_8_method_2_code
def yX6_readTown : MethodName := ⟨RX6, "readTown", "(LPaperBread$Town;I)Z"⟩
abbrev cX6_beginPart : ByteArray := prog_8_method_3_code
def yX6_beginPart : MethodName := ⟨RX6, "beginPart", "(IZ)V"⟩
abbrev cX6_endsPart : ByteArray := prog_8_method_4_code
def yX6_endsPart : MethodName := ⟨RX6, "endsPart", "()Z"⟩
abbrev cX6_readPerson : ByteArray := prog_8_method_5_code
def yX6_readPerson : MethodName := ⟨RX6, "readPerson", "(LPaperBread$Town;)V"⟩
abbrev cX6_readOven : ByteArray := prog_8_method_6_code
def yX6_readOven : MethodName := ⟨RX6, "readOven", "(LPaperBread$Town;)V"⟩
abbrev cX6_readLoaf : ByteArray := prog_8_method_7_code
def yX6_readLoaf : MethodName := ⟨RX6, "readLoaf", "(LPaperBread$Town;)V"⟩
abbrev cX6_readTownPromise : ByteArray := prog_8_method_8_code
def yX6_readTownPromise : MethodName := ⟨RX6, "readTownPromise", "(LPaperBread$Town;)V"⟩
abbrev cX6_readPromise : ByteArray := prog_8_method_9_code
def yX6_readPromise : MethodName := ⟨RX6, "readPromise", "(LPaperBread$Names;)V"⟩
abbrev cX6_readDays : ByteArray := prog_8_method_10_code
def yX6_readDays : MethodName := ⟨RX6, "readDays", "(LPaperBread$Names;LPaperBread$Days;I)Z"⟩
abbrev cX6_readEnd : ByteArray := prog_8_method_11_code
def yX6_readEnd : MethodName := ⟨RX6, "readEnd", "(LPaperBread$Days;)V"⟩
abbrev cX6_isStep : ByteArray := prog_8_method_12_code
def yX6_isStep : MethodName := ⟨RX6, "isStep", "(I)Z"⟩
abbrev cX6_begins : ByteArray := prog_8_method_13_code
def yX6_begins : MethodName := ⟨RX6, "begins", "(I)Z"⟩
abbrev cX6_mayStepHere : ByteArray := prog_8_method_14_code
def yX6_mayStepHere : MethodName := ⟨RX6, "mayStepHere", "(ILPaperBread$Days;)Z"⟩
abbrev cX6_addStep : ByteArray := prog_8_method_15_code
def yX6_addStep : MethodName := ⟨RX6, "addStep", "(ILPaperBread$Days;)V"⟩
abbrev cX6_readStep : ByteArray := prog_8_method_16_code
def yX6_readStep : MethodName := ⟨RX6, "readStep", "(ILPaperBread$Names;)V"⟩
abbrev cX6_readTest : ByteArray := prog_8_method_17_code
def yX6_readTest : MethodName := ⟨RX6, "readTest", "(LPaperBread$Names;)V"⟩
def RX7 : String := "PaperBread$Tokens"
def TX7 : u_T := fun k => match k with
  | 0 => ("PaperBread$Tokens", "tape", "[B", true)
  | 1 => ("PaperBread$Tokens", "keywords", "[J", true)
  | 2 => ("PaperBread$Tokens", "fed", "I", false)
  | 3 => ("PaperBread$Tokens", "length", "I", false)
  | 4 => ("PaperBread$Tokens", "kind", "I", false)
  | 5 => ("PaperBread$Tokens", "place", "I", false)
  | 6 => ("PaperBread$Tokens", "behind", "I", false)
  | 7 => ("PaperBread$Tokens", "number", "I", false)
  | 8 => ("PaperBread$Tokens", "name", "J", false)
  | 9 => ("PaperBread$Tokens", "wrong", "I", false)
  | _ => ("PaperBread$Tokens", "wrongPlace", "I", false)
def tyX7 : Nat → FieldType := fun k => match k with
  | 0 => .array .byte
  | 1 => .array .long
  | 2 => .int
  | 3 => .int
  | 4 => .int
  | 5 => .int
  | 6 => .int
  | 7 => .int
  | 8 => .long
  | 9 => .int
  | _ => .int
abbrev wsX70 : List Cond := u_ws RX7 TX7 11
theorem nmX7 : ∀ a, a < 11 → ∀ b, b < 11 → a ≠ b → (TX7 a).2.1 ≠ (TX7 b).2.1 := by decide +kernel
theorem tyX7_ok : ∀ k, k < 11 → parseFieldDescriptor (TX7 k).2.2.1 = some (tyX7 k) := by decide +kernel
abbrev cX7_init : ByteArray := prog_9_method_1_code
def yX7_init : MethodName := ⟨RX7, "<init>", "()V"⟩
abbrev cX7_hasRoomFor : ByteArray := prog_9_method_2_code
def yX7_hasRoomFor : MethodName := ⟨RX7, "hasRoomFor", "(I)Z"⟩
abbrev cX7_append : ByteArray := prog_9_method_3_code
def yX7_append : MethodName := ⟨RX7, "append", "(I)V"⟩
abbrev cX7_open : ByteArray := prog_9_method_4_code
def yX7_open : MethodName := ⟨RX7, "open", "(I)V"⟩
abbrev cX7_advance : ByteArray := prog_9_method_5_code
def yX7_advance : MethodName := ⟨RX7, "advance", "()V"⟩
abbrev cX7_cutWord : ByteArray := prog_9_method_6_code
def yX7_cutWord : MethodName := ⟨RX7, "cutWord", "()V"⟩
abbrev cX7_cutNumber : ByteArray := prog_9_method_7_code
def yX7_cutNumber : MethodName := ⟨RX7, "cutNumber", "()V"⟩
abbrev cX7_goesOn : ByteArray := prog_9_method_8_code
def yX7_goesOn : MethodName := ⟨RX7, "goesOn", "()Z"⟩
abbrev cX7_blame : ByteArray := prog_9_method_9_code
def yX7_blame : MethodName := ⟨RX7, "blame", "(I)V"⟩
abbrev cX7_misplaced : ByteArray := prog_9_method_10_code
def yX7_misplaced : MethodName := ⟨RX7, "misplaced", "()V"⟩
abbrev cX7_isWord : ByteArray := prog_9_method_11_code
def yX7_isWord : MethodName := ⟨RX7, "isWord", "(I)Z"⟩
abbrev cX7_wordHere : ByteArray := prog_9_method_12_code
def yX7_wordHere : MethodName := ⟨RX7, "wordHere", "()I"⟩
abbrev cX7_skips : ByteArray := prog_9_method_13_code
def yX7_skips : MethodName := ⟨RX7, "skips", "(I)Z"⟩
abbrev cX7_takeWord : ByteArray := prog_9_method_14_code
def yX7_takeWord : MethodName := ⟨RX7, "takeWord", "(I)V"⟩
abbrev cX7_takeSign : ByteArray := prog_9_method_15_code
def yX7_takeSign : MethodName := ⟨RX7, "takeSign", "(I)V"⟩
abbrev cX7_takeCompares : ByteArray := prog_9_method_16_code
def yX7_takeCompares : MethodName := ⟨RX7, "takeCompares", "()I"⟩
abbrev cX7_takeNumber : ByteArray := prog_9_method_17_code
def yX7_takeNumber : MethodName := ⟨RX7, "takeNumber", "(II)I"⟩
abbrev cX7_seesName : ByteArray := prog_9_method_18_code
def yX7_seesName : MethodName := ⟨RX7, "seesName", "()Z"⟩
abbrev cX7_takeNewName : ByteArray := prog_9_method_19_code
def yX7_takeNewName : MethodName := ⟨RX7, "takeNewName", "(LPaperBread$Names;)J"⟩
abbrev cX7_takeName : ByteArray := prog_9_method_20_code
def yX7_takeName : MethodName := ⟨RX7, "takeName", "(LPaperBread$Names;II)I"⟩
def RX8 : String := "PaperBread$Town"
def TX8 : u_T := fun k => match k with
  | 0 => ("PaperBread$Town", "names", "LPaperBread$Names;", true)
  | 1 => ("PaperBread$Town", "promises", "LPaperBread$Promises;", true)
  | 2 => ("PaperBread$Town", "days", "LPaperBread$Days;", true)
  | 3 => ("PaperBread$Town", "purse", "[I", true)
  | 4 => ("PaperBread$Town", "own", "[I", true)
  | 5 => ("PaperBread$Town", "lostFace", "[I", true)
  | 6 => ("PaperBread$Town", "rain", "[I", true)
  | 7 => ("PaperBread$Town", "baker", "[I", true)
  | 8 => ("PaperBread$Town", "oven", "[I", true)
  | 9 => ("PaperBread$Town", "bakingDay", "[I", true)
  | 10 => ("PaperBread$Town", "slices", "[I", true)
  | 11 => ("PaperBread$Town", "flour", "[I", true)
  | 12 => ("PaperBread$Town", "came", "[I", true)
  | 13 => ("PaperBread$Town", "people", "I", false)
  | 14 => ("PaperBread$Town", "ovens", "I", false)
  | 15 => ("PaperBread$Town", "loaves", "I", false)
  | 16 => ("PaperBread$Town", "day", "I", false)
  | 17 => ("PaperBread$Town", "baked", "I", false)
  | _ => ("PaperBread$Town", "wet", "I", false)
def tyX8 : Nat → FieldType := fun k => match k with
  | 0 => .object "PaperBread$Names"
  | 1 => .object "PaperBread$Promises"
  | 2 => .object "PaperBread$Days"
  | 3 => .array .int
  | 4 => .array .int
  | 5 => .array .int
  | 6 => .array .int
  | 7 => .array .int
  | 8 => .array .int
  | 9 => .array .int
  | 10 => .array .int
  | 11 => .array .int
  | 12 => .array .int
  | 13 => .int
  | 14 => .int
  | 15 => .int
  | 16 => .int
  | 17 => .int
  | _ => .int
abbrev wsX80 : List Cond := u_ws RX8 TX8 19
theorem nmX8 : ∀ a, a < 19 → ∀ b, b < 19 → a ≠ b → (TX8 a).2.1 ≠ (TX8 b).2.1 := by decide +kernel
theorem tyX8_ok : ∀ k, k < 19 → parseFieldDescriptor (TX8 k).2.2.1 = some (tyX8 k) := by decide +kernel
abbrev cX8_init : ByteArray := prog_10_method_1_code
def yX8_init : MethodName := ⟨RX8, "<init>", "()V"⟩
abbrev cX8_clear : ByteArray := prog_10_method_2_code
def yX8_clear : MethodName := ⟨RX8, "clear", "()V"⟩
abbrev cX8_copyOf : ByteArray := prog_10_method_3_code
def yX8_copyOf : MethodName := ⟨RX8, "copyOf", "(LPaperBread$Town;)V"⟩
abbrev cX8_addPerson : ByteArray := prog_10_method_4_code
def yX8_addPerson : MethodName := ⟨RX8, "addPerson", "(JI)V"⟩
abbrev cX8_addOven : ByteArray := prog_10_method_5_code
def yX8_addOven : MethodName := ⟨RX8, "addOven", "(JI)V"⟩
abbrev cX8_addLoaf : ByteArray := prog_10_method_6_code
def yX8_addLoaf : MethodName := ⟨RX8, "addLoaf", "(JIIIII)V"⟩
abbrev cX8_hasPerson : ByteArray := prog_10_method_7_code
def yX8_hasPerson : MethodName := ⟨RX8, "hasPerson", "(I)Z"⟩
abbrev cX8_hasLoaf : ByteArray := prog_10_method_8_code
def yX8_hasLoaf : MethodName := ⟨RX8, "hasLoaf", "(I)Z"⟩
abbrev cX8_isPaper : ByteArray := prog_10_method_9_code
def yX8_isPaper : MethodName := ⟨RX8, "isPaper", "(I)Z"⟩
abbrev cX8_isBaked : ByteArray := prog_10_method_10_code
def yX8_isBaked : MethodName := ⟨RX8, "isBaked", "(I)Z"⟩
abbrev cX8_isWet : ByteArray := prog_10_method_11_code
def yX8_isWet : MethodName := ⟨RX8, "isWet", "(I)Z"⟩
abbrev cX8_bakerOf : ByteArray := prog_10_method_12_code
def yX8_bakerOf : MethodName := ⟨RX8, "bakerOf", "(I)I"⟩
abbrev cX8_rainOn : ByteArray := prog_10_method_13_code
def yX8_rainOn : MethodName := ⟨RX8, "rainOn", "(I)I"⟩
abbrev cX8_comesOf : ByteArray := prog_10_method_14_code
def yX8_comesOf : MethodName := ⟨RX8, "comesOf", "(IZ)I"⟩
abbrev cX8_flourOf : ByteArray := prog_10_method_15_code
def yX8_flourOf : MethodName := ⟨RX8, "flourOf", "(I)I"⟩
abbrev cX8_handOn : ByteArray := prog_10_method_16_code
def yX8_handOn : MethodName := ⟨RX8, "handOn", "(IIIII)I"⟩
abbrev cX8_release : ByteArray := prog_10_method_17_code
def yX8_release : MethodName := ⟨RX8, "release", "(I)Z"⟩
abbrev cX8_canBake : ByteArray := prog_10_method_18_code
def yX8_canBake : MethodName := ⟨RX8, "canBake", "(I)Z"⟩
abbrev cX8_rainsOn : ByteArray := prog_10_method_19_code
def yX8_rainsOn : MethodName := ⟨RX8, "rainsOn", "(I)Z"⟩
abbrev cX8_bringOut : ByteArray := prog_10_method_20_code
def yX8_bringOut : MethodName := ⟨RX8, "bringOut", "(ILPaperBread$Share;)I"⟩
abbrev cX8_feast : ByteArray := prog_10_method_21_code
def yX8_feast : MethodName := ⟨RX8, "feast", "(II)I"⟩
abbrev cX8_handMoney : ByteArray := prog_10_method_22_code
def yX8_handMoney : MethodName := ⟨RX8, "handMoney", "(III)Z"⟩
def RX9 : String := "PaperBread$Trays"
def TX9 : u_T := fun k => match k with
  | 0 => ("PaperBread$Trays", "cells", "[J", true)
  | 1 => ("PaperBread$Trays", "sorts", "[I", true)
  | _ => ("PaperBread$Trays", "lengths", "[I", true)
def tyX9 : Nat → FieldType := fun k => match k with
  | 0 => .array .long
  | 1 => .array .int
  | _ => .array .int
abbrev wsX90 : List Cond := u_ws RX9 TX9 3
theorem nmX9 : ∀ a, a < 3 → ∀ b, b < 3 → a ≠ b → (TX9 a).2.1 ≠ (TX9 b).2.1 := by decide +kernel
theorem tyX9_ok : ∀ k, k < 3 → parseFieldDescriptor (TX9 k).2.2.1 = some (tyX9 k) := by decide +kernel
abbrev cX9_init : ByteArray := prog_11_method_1_code
def yX9_init : MethodName := ⟨RX9, "<init>", "()V"⟩
abbrev cX9_exists : ByteArray := prog_11_method_2_code
def yX9_exists : MethodName := ⟨RX9, "exists", "(I)Z"⟩
abbrev cX9_isSort : ByteArray := prog_11_method_3_code
def yX9_isSort : MethodName := ⟨RX9, "isSort", "(I)Z"⟩
abbrev cX9_isMissing : ByteArray := prog_11_method_4_code
def yX9_isMissing : MethodName := ⟨RX9, "isMissing", "(I)Z"⟩
abbrev cX9_lengthOf : ByteArray := prog_11_method_5_code
def yX9_lengthOf : MethodName := ⟨RX9, "lengthOf", "(I)I"⟩
abbrev cX9_alike : ByteArray := prog_11_method_6_code
def yX9_alike : MethodName := ⟨RX9, "alike", "(II)Z"⟩
abbrev cX9_hasRow : ByteArray := prog_11_method_7_code
def yX9_hasRow : MethodName := ⟨RX9, "hasRow", "(III)Z"⟩
abbrev cX9_whyNot : ByteArray := prog_11_method_8_code
def yX9_whyNot : MethodName := ⟨RX9, "whyNot", "(II)I"⟩
abbrev cX9_lay : ByteArray := prog_11_method_9_code
def yX9_lay : MethodName := ⟨RX9, "lay", "(III)V"⟩
abbrev cX9_put : ByteArray := prog_11_method_10_code
def yX9_put : MethodName := ⟨RX9, "put", "(IIJ)V"⟩
abbrev cX9_at : ByteArray := prog_11_method_11_code
def yX9_at : MethodName := ⟨RX9, "at", "(II)J"⟩
abbrev cX9_move : ByteArray := prog_11_method_12_code
def yX9_move : MethodName := ⟨RX9, "move", "(IIIII)V"⟩
abbrev cX9_allWithin : ByteArray := prog_11_method_13_code
def yX9_allWithin : MethodName := ⟨RX9, "allWithin", "(IIJ)Z"⟩
abbrev cX9_placeOfMost : ByteArray := prog_11_method_14_code
def yX9_placeOfMost : MethodName := ⟨RX9, "placeOfMost", "(III)I"⟩
abbrev cX9_cutTo : ByteArray := prog_11_method_15_code
def yX9_cutTo : MethodName := ⟨RX9, "cutTo", "(IJ)J"⟩
def RX10 : String := "PaperBread"
def TX10 : u_T := fun k => match k with
  | 0 => ("PaperBread", "trays", "LPaperBread$Trays;", true)
  | 1 => ("PaperBread", "texts", "LPaperBread$Texts;", true)
  | 2 => ("PaperBread", "town", "LPaperBread$Town;", true)
  | 3 => ("PaperBread", "draft", "LPaperBread$Town;", true)
  | 4 => ("PaperBread", "marks", "[LPaperBread$Town;", true)
  | 5 => ("PaperBread", "share", "LPaperBread$Share;", true)
  | 6 => ("PaperBread", "netting", "LPaperBread$Netting;", true)
  | 7 => ("PaperBread", "living", "LPaperBread$Living;", true)
  | 8 => ("PaperBread", "trial", "LPaperBread$Living;", true)
  | 9 => ("PaperBread", "marked", "I", false)
  | 10 => ("PaperBread", "status", "I", false)
  | 11 => ("PaperBread", "top", "J", false)
  | 12 => ("PaperBread", "bottom", "J", false)
  | 13 => ("PaperBread", "faultKind", "I", false)
  | 14 => ("PaperBread", "faultPlace", "I", false)
  | _ => ("PaperBread", "hasLived", "Z", false)
def tyX10 : Nat → FieldType := fun k => match k with
  | 0 => .object "PaperBread$Trays"
  | 1 => .object "PaperBread$Texts"
  | 2 => .object "PaperBread$Town"
  | 3 => .object "PaperBread$Town"
  | 4 => .array (.object "PaperBread$Town")
  | 5 => .object "PaperBread$Share"
  | 6 => .object "PaperBread$Netting"
  | 7 => .object "PaperBread$Living"
  | 8 => .object "PaperBread$Living"
  | 9 => .int
  | 10 => .int
  | 11 => .long
  | 12 => .long
  | 13 => .int
  | 14 => .int
  | _ => .boolean
abbrev wsX100 : List Cond := u_ws RX10 TX10 16
theorem nmX10 : ∀ a, a < 16 → ∀ b, b < 16 → a ≠ b → (TX10 a).2.1 ≠ (TX10 b).2.1 := by decide +kernel
theorem tyX10_ok : ∀ k, k < 16 → parseFieldDescriptor (TX10 k).2.2.1 = some (tyX10 k) := by decide +kernel
abbrev cX10_init : ByteArray := prog_1_method_1_code
def yX10_init : MethodName := ⟨RX10, "<init>", "()V"⟩
abbrev cX10_status : ByteArray := prog_1_method_2_code
def yX10_status : MethodName := ⟨RX10, "status", "()I"⟩
abbrev cX10_top : ByteArray := prog_1_method_3_code
def yX10_top : MethodName := ⟨RX10, "top", "()J"⟩
abbrev cX10_bottom : ByteArray := prog_1_method_4_code
def yX10_bottom : MethodName := ⟨RX10, "bottom", "()J"⟩
abbrev cX10_tray : ByteArray := prog_1_method_5_code
def yX10_tray : MethodName := ⟨RX10, "tray", "(III)Z"⟩
abbrev cX10_write : ByteArray := prog_1_method_6_code
def yX10_write : MethodName := ⟨RX10, "write", "(IIJ)Z"⟩
abbrev cX10_read : ByteArray := prog_1_method_7_code
def yX10_read : MethodName := ⟨RX10, "read", "(II)J"⟩
abbrev cX10_pour : ByteArray := prog_1_method_8_code
def yX10_pour : MethodName := ⟨RX10, "pour", "(IIIII)Z"⟩
abbrev cX10_feed : ByteArray := prog_1_method_9_code
def yX10_feed : MethodName := ⟨RX10, "feed", "(IIIII)I"⟩
abbrev cX10_town : ByteArray := prog_1_method_10_code
def yX10_town : MethodName := ⟨RX10, "town", "(I)I"⟩
abbrev cX10_days : ByteArray := prog_1_method_11_code
def yX10_days : MethodName := ⟨RX10, "days", "(I)I"⟩
abbrev cX10_fault : ByteArray := prog_1_method_12_code
def yX10_fault : MethodName := ⟨RX10, "fault", "(I)I"⟩
abbrev cX10_many : ByteArray := prog_1_method_13_code
def yX10_many : MethodName := ⟨RX10, "many", "(I)I"⟩
abbrev cX10_person : ByteArray := prog_1_method_14_code
def yX10_person : MethodName := ⟨RX10, "person", "(II)I"⟩
abbrev cX10_loaf : ByteArray := prog_1_method_15_code
def yX10_loaf : MethodName := ⟨RX10, "loaf", "(II)I"⟩
abbrev cX10_promise : ByteArray := prog_1_method_16_code
def yX10_promise : MethodName := ⟨RX10, "promise", "(II)I"⟩
abbrev cX10_holds : ByteArray := prog_1_method_17_code
def yX10_holds : MethodName := ⟨RX10, "holds", "(II)I"⟩
abbrev cX10_deep : ByteArray := prog_1_method_18_code
def yX10_deep : MethodName := ⟨RX10, "deep", "(I)I"⟩
abbrev cX10_first : ByteArray := prog_1_method_19_code
def yX10_first : MethodName := ⟨RX10, "first", "(III)I"⟩
abbrev cX10_line : ByteArray := prog_1_method_20_code
def yX10_line : MethodName := ⟨RX10, "line", "(II)I"⟩
abbrev cX10_whose : ByteArray := prog_1_method_21_code
def yX10_whose : MethodName := ⟨RX10, "whose", "(IIZ)I"⟩
abbrev cX10_depth : ByteArray := prog_1_method_22_code
def yX10_depth : MethodName := ⟨RX10, "depth", "(I)I"⟩
abbrev cX10_between : ByteArray := prog_1_method_23_code
def yX10_between : MethodName := ⟨RX10, "between", "(II)I"⟩
abbrev cX10_gets : ByteArray := prog_1_method_24_code
def yX10_gets : MethodName := ⟨RX10, "gets", "(IIZ)I"⟩
abbrev cX10_shame : ByteArray := prog_1_method_25_code
def yX10_shame : MethodName := ⟨RX10, "shame", "(IZ)I"⟩
abbrev cX10_mean : ByteArray := prog_1_method_26_code
def yX10_mean : MethodName := ⟨RX10, "mean", "(III)Z"⟩
abbrev cX10_net : ByteArray := prog_1_method_27_code
def yX10_net : MethodName := ⟨RX10, "net", "(I)I"⟩
abbrev cX10_handOvers : ByteArray := prog_1_method_28_code
def yX10_handOvers : MethodName := ⟨RX10, "handOvers", "()I"⟩
abbrev cX10_ring : ByteArray := prog_1_method_29_code
def yX10_ring : MethodName := ⟨RX10, "ring", "()I"⟩
abbrev cX10_ringAt : ByteArray := prog_1_method_30_code
def yX10_ringAt : MethodName := ⟨RX10, "ringAt", "(I)I"⟩
abbrev cX10_owing : ByteArray := prog_1_method_31_code
def yX10_owing : MethodName := ⟨RX10, "owing", "(I)I"⟩
abbrev cX10_saved : ByteArray := prog_1_method_32_code
def yX10_saved : MethodName := ⟨RX10, "saved", "(III)I"⟩
abbrev cX10_faces : ByteArray := prog_1_method_33_code
def yX10_faces : MethodName := ⟨RX10, "faces", "()I"⟩
abbrev cX10_keeps : ByteArray := prog_1_method_34_code
def yX10_keeps : MethodName := ⟨RX10, "keeps", "(III)I"⟩
abbrev cX10_burst : ByteArray := prog_1_method_35_code
def yX10_burst : MethodName := ⟨RX10, "burst", "()I"⟩
abbrev cX10_cuts : ByteArray := prog_1_method_36_code
def yX10_cuts : MethodName := ⟨RX10, "cuts", "(IIIII)I"⟩
abbrev cX10_auction : ByteArray := prog_1_method_37_code
def yX10_auction : MethodName := ⟨RX10, "auction", "(III)I"⟩
abbrev cX10_make : ByteArray := prog_1_method_38_code
def yX10_make : MethodName := ⟨RX10, "make", "(IIIII)I"⟩
abbrev cX10_letGo : ByteArray := prog_1_method_39_code
def yX10_letGo : MethodName := ⟨RX10, "letGo", "(I)Z"⟩
abbrev cX10_bake : ByteArray := prog_1_method_40_code
def yX10_bake : MethodName := ⟨RX10, "bake", "(I)I"⟩
abbrev cX10_pass : ByteArray := prog_1_method_41_code
def yX10_pass : MethodName := ⟨RX10, "pass", "(I)I"⟩
abbrev cX10_eat : ByteArray := prog_1_method_42_code
def yX10_eat : MethodName := ⟨RX10, "eat", "(II)I"⟩
abbrev cX10_pay : ByteArray := prog_1_method_43_code
def yX10_pay : MethodName := ⟨RX10, "pay", "(III)Z"⟩
abbrev cX10_live : ByteArray := prog_1_method_44_code
def yX10_live : MethodName := ⟨RX10, "live", "(I)I"⟩
abbrev cX10_lived : ByteArray := prog_1_method_45_code
def yX10_lived : MethodName := ⟨RX10, "lived", "(I)I"⟩
abbrev cX10_odds : ByteArray := prog_1_method_46_code
def yX10_odds : MethodName := ⟨RX10, "odds", "(IIII)Z"⟩
abbrev cX10_mark : ByteArray := prog_1_method_47_code
def yX10_mark : MethodName := ⟨RX10, "mark", "()I"⟩
abbrev cX10_back : ByteArray := prog_1_method_48_code
def yX10_back : MethodName := ⟨RX10, "back", "()I"⟩
abbrev cX10_answer : ByteArray := prog_1_method_49_code
def yX10_answer : MethodName := ⟨RX10, "answer", "(I)I"⟩
abbrev cX10_refuse : ByteArray := prog_1_method_50_code
def yX10_refuse : MethodName := ⟨RX10, "refuse", "(I)I"⟩
abbrev cX10_grant : ByteArray := prog_1_method_51_code
def yX10_grant : MethodName := ⟨RX10, "grant", "()Z"⟩
abbrev cX10_deny : ByteArray := prog_1_method_52_code
def yX10_deny : MethodName := ⟨RX10, "deny", "(I)Z"⟩
abbrev cX10_keepFault : ByteArray := prog_1_method_53_code
def yX10_keepFault : MethodName := ⟨RX10, "keepFault", "()V"⟩
abbrev cX10_tell : ByteArray := prog_1_method_54_code
def yX10_tell : MethodName := ⟨RX10, "tell", "(JJ)V"⟩
abbrev cX10_wouldGet : ByteArray := prog_1_method_55_code
def yX10_wouldGet : MethodName := ⟨RX10, "wouldGet", "(IIZ)I"⟩
abbrev cX10_firstBrokenDay : ByteArray := prog_1_method_56_code
def yX10_firstBrokenDay : MethodName := ⟨RX10, "firstBrokenDay", "(III)I"⟩
abbrev cX10_cuttingTurn : ByteArray := prog_1_method_57_code
def yX10_cuttingTurn : MethodName := ⟨RX10, "cuttingTurn", "(IIII)I"⟩
abbrev cX10_carry : ByteArray := prog_1_method_58_code
def yX10_carry : MethodName := ⟨RX10, "carry", "(LPaperBread$Town;LPaperBread$Town;)V"⟩
def RX11 : String := "PaperBreadModel"
def TX11 : u_T := fun k => match k with
  | 0 => ("PaperBreadModel", "status", "I", false)
  | 1 => ("PaperBreadModel", "thrown", "I", false)
  | 2 => ("PaperBreadModel", "above", "J", false)
  | 3 => ("PaperBreadModel", "under", "J", false)
  | 4 => ("PaperBreadModel", "traySort", "[I", true)
  | 5 => ("PaperBreadModel", "trayMany", "[I", true)
  | 6 => ("PaperBreadModel", "numbers", "[J", true)
  | 7 => ("PaperBreadModel", "tape", "[B", true)
  | 8 => ("PaperBreadModel", "taped", "I", false)
  | 9 => ("PaperBreadModel", "textEnd", "I", false)
  | 10 => ("PaperBreadModel", "faultKind", "I", false)
  | 11 => ("PaperBreadModel", "faultAt", "I", false)
  | 12 => ("PaperBreadModel", "bad", "I", false)
  | 13 => ("PaperBreadModel", "badAt", "I", false)
  | 14 => ("PaperBreadModel", "token", "I", false)
  | 15 => ("PaperBreadModel", "at", "I", false)
  | 16 => ("PaperBreadModel", "behind", "I", false)
  | 17 => ("PaperBreadModel", "number", "I", false)
  | 18 => ("PaperBreadModel", "letters", "I", false)
  | 19 => ("PaperBreadModel", "word", "J", false)
  | 20 => ("PaperBreadModel", "c", "[I", true)
  | 21 => ("PaperBreadModel", "kept", "[I", true)
  | 22 => ("PaperBreadModel", "words", "[J", true)
  | 23 => ("PaperBreadModel", "markMany", "I", false)
  | 24 => ("PaperBreadModel", "newSteps", "I", false)
  | 25 => ("PaperBreadModel", "deepAt", "[I", true)
  | 26 => ("PaperBreadModel", "row", "[I", true)
  | 27 => ("PaperBreadModel", "gotten", "[I", true)
  | 28 => ("PaperBreadModel", "rowMany", "I", false)
  | 29 => ("PaperBreadModel", "groups", "[I", true)
  | 30 => ("PaperBreadModel", "sums", "[I", true)
  | 31 => ("PaperBreadModel", "ringRow", "[I", true)
  | 32 => ("PaperBreadModel", "ringTold", "[I", true)
  | 33 => ("PaperBreadModel", "ringMany", "I", false)
  | 34 => ("PaperBreadModel", "cutTurn", "[I", true)
  | 35 => ("PaperBreadModel", "cutHas", "[I", true)
  | 36 => ("PaperBreadModel", "livedLast", "[I", true)
  | 37 => ("PaperBreadModel", "hasLived", "Z", false)
  | 38 => ("PaperBreadModel", "isOver", "Z", false)
  | 39 => ("PaperBreadModel", "random", "I", false)
  | 40 => ("PaperBreadModel", "done", "I", false)
  | 41 => ("PaperBreadModel", "missed", "I", false)
  | 42 => ("PaperBreadModel", "baked", "I", false)
  | 43 => ("PaperBreadModel", "eaten", "I", false)
  | 44 => ("PaperBreadModel", "bakedWet", "I", false)
  | _ => ("PaperBreadModel", "leftOver", "I", false)
def tyX11 : Nat → FieldType := fun k => match k with
  | 0 => .int
  | 1 => .int
  | 2 => .long
  | 3 => .long
  | 4 => .array .int
  | 5 => .array .int
  | 6 => .array .long
  | 7 => .array .byte
  | 8 => .int
  | 9 => .int
  | 10 => .int
  | 11 => .int
  | 12 => .int
  | 13 => .int
  | 14 => .int
  | 15 => .int
  | 16 => .int
  | 17 => .int
  | 18 => .int
  | 19 => .long
  | 20 => .array .int
  | 21 => .array .int
  | 22 => .array .long
  | 23 => .int
  | 24 => .int
  | 25 => .array .int
  | 26 => .array .int
  | 27 => .array .int
  | 28 => .int
  | 29 => .array .int
  | 30 => .array .int
  | 31 => .array .int
  | 32 => .array .int
  | 33 => .int
  | 34 => .array .int
  | 35 => .array .int
  | 36 => .array .int
  | 37 => .boolean
  | 38 => .boolean
  | 39 => .int
  | 40 => .int
  | 41 => .int
  | 42 => .int
  | 43 => .int
  | 44 => .int
  | _ => .int
abbrev wsX110 : List Cond := u_ws RX11 TX11 46
theorem nmX11 : ∀ a, a < 46 → ∀ b, b < 46 → a ≠ b → (TX11 a).2.1 ≠ (TX11 b).2.1 := by decide +kernel
theorem tyX11_ok : ∀ k, k < 46 → parseFieldDescriptor (TX11 k).2.2.1 = some (tyX11 k) := by decide +kernel
abbrev cX11_init : ByteArray := prog_13_method_1_code
def yX11_init : MethodName := ⟨RX11, "<init>", "()V"⟩
abbrev cX11_status : ByteArray := prog_13_method_3_code
def yX11_status : MethodName := ⟨RX11, "status", "()I"⟩
abbrev cX11_top : ByteArray := prog_13_method_4_code
def yX11_top : MethodName := ⟨RX11, "top", "()J"⟩
abbrev cX11_bottom : ByteArray := prog_13_method_5_code
def yX11_bottom : MethodName := ⟨RX11, "bottom", "()J"⟩
abbrev cX11_refuse : ByteArray := prog_13_method_6_code
def yX11_refuse : MethodName := ⟨RX11, "refuse", "(I)I"⟩
abbrev cX11_no : ByteArray := prog_13_method_7_code
def yX11_no : MethodName := ⟨RX11, "no", "(I)Z"⟩
abbrev cX11_isIn : ByteArray := prog_13_method_8_code
def yX11_isIn : MethodName := ⟨RX11, "isIn", "(JJJ)Z"⟩
abbrev cX11_fraction : ByteArray := prog_13_method_9_code
def yX11_fraction : MethodName := ⟨RX11, "fraction", "(JJ)Z"⟩
abbrev cX11_cut : ByteArray := prog_13_method_10_code
def yX11_cut : MethodName := ⟨RX11, "cut", "(IJ)J"⟩
abbrev cX11_tray : ByteArray := prog_13_method_11_code
def yX11_tray : MethodName := ⟨RX11, "tray", "(III)Z"⟩
abbrev cX11_trayed : ByteArray := prog_13_method_12_code
def yX11_trayed : MethodName := ⟨RX11, "trayed", "(I)I"⟩
abbrev cX11_placed : ByteArray := prog_13_method_13_code
def yX11_placed : MethodName := ⟨RX11, "placed", "(II)I"⟩
abbrev cX11_write : ByteArray := prog_13_method_14_code
def yX11_write : MethodName := ⟨RX11, "write", "(IIJ)Z"⟩
abbrev cX11_read : ByteArray := prog_13_method_15_code
def yX11_read : MethodName := ⟨RX11, "read", "(II)J"⟩
abbrev cX11_pour : ByteArray := prog_13_method_16_code
def yX11_pour : MethodName := ⟨RX11, "pour", "(IIIII)Z"⟩
abbrev cX11_numberOf : ByteArray := prog_13_method_17_code
def yX11_numberOf : MethodName := ⟨RX11, "numberOf", "(II)J"⟩
abbrev cX11_isTray : ByteArray := prog_13_method_18_code
def yX11_isTray : MethodName := ⟨RX11, "isTray", "(I)Z"⟩
abbrev cX11_look2 : ByteArray := prog_13_method_19_code
def yX11_look2 : MethodName := ⟨RX11, "look2", "(I)I"⟩
abbrev cX11_isLetter : ByteArray := prog_13_method_20_code
def yX11_isLetter : MethodName := ⟨RX11, "isLetter", "(I)Z"⟩
abbrev cX11_isDigit : ByteArray := prog_13_method_21_code
def yX11_isDigit : MethodName := ⟨RX11, "isDigit", "(I)Z"⟩
abbrev cX11_isSignByte : ByteArray := prog_13_method_22_code
def yX11_isSignByte : MethodName := ⟨RX11, "isSignByte", "(I)Z"⟩
abbrev cX11_next : ByteArray := prog_13_method_23_code
def yX11_next : MethodName := ⟨RX11, "next", "()V"⟩
abbrev cX11_isSign : ByteArray := prog_13_method_24_code
def yX11_isSign : MethodName := ⟨RX11, "isSign", "(I)Z"⟩
abbrev cX11_spelled : ByteArray := prog_13_method_25_code
def yX11_spelled : MethodName := ⟨RX11, "spelled", "(IIIIII)J"⟩
abbrev cX11_isWord : ByteArray := prog_13_method_26_code
def yX11_isWord : MethodName := ⟨RX11, "isWord", "(J)Z"⟩
abbrev cX11_isPerson : ByteArray := prog_13_method_27_code
def yX11_isPerson : MethodName := ⟨RX11, "isPerson", "()Z"⟩
abbrev cX11_isPurse : ByteArray := prog_13_method_28_code
def yX11_isPurse : MethodName := ⟨RX11, "isPurse", "()Z"⟩
abbrev cX11_isOven : ByteArray := prog_13_method_29_code
def yX11_isOven : MethodName := ⟨RX11, "isOven", "()Z"⟩
abbrev cX11_isRain : ByteArray := prog_13_method_30_code
def yX11_isRain : MethodName := ⟨RX11, "isRain", "()Z"⟩
abbrev cX11_isLoaf : ByteArray := prog_13_method_31_code
def yX11_isLoaf : MethodName := ⟨RX11, "isLoaf", "()Z"⟩
abbrev cX11_isBy : ByteArray := prog_13_method_32_code
def yX11_isBy : MethodName := ⟨RX11, "isBy", "()Z"⟩
abbrev cX11_isInWord : ByteArray := prog_13_method_33_code
def yX11_isInWord : MethodName := ⟨RX11, "isInWord", "()Z"⟩
abbrev cX11_isOn : ByteArray := prog_13_method_34_code
def yX11_isOn : MethodName := ⟨RX11, "isOn", "()Z"⟩
abbrev cX11_isSlices : ByteArray := prog_13_method_35_code
def yX11_isSlices : MethodName := ⟨RX11, "isSlices", "()Z"⟩
abbrev cX11_isFlour : ByteArray := prog_13_method_36_code
def yX11_isFlour : MethodName := ⟨RX11, "isFlour", "()Z"⟩
abbrev cX11_isPromise : ByteArray := prog_13_method_37_code
def yX11_isPromise : MethodName := ⟨RX11, "isPromise", "()Z"⟩
abbrev cX11_isOf : ByteArray := prog_13_method_38_code
def yX11_isOf : MethodName := ⟨RX11, "isOf", "()Z"⟩
abbrev cX11_isFrom : ByteArray := prog_13_method_39_code
def yX11_isFrom : MethodName := ⟨RX11, "isFrom", "()Z"⟩
abbrev cX11_isTo : ByteArray := prog_13_method_40_code
def yX11_isTo : MethodName := ⟨RX11, "isTo", "()Z"⟩
abbrev cX11_isFor : ByteArray := prog_13_method_41_code
def yX11_isFor : MethodName := ⟨RX11, "isFor", "()Z"⟩
abbrev cX11_stepWord : ByteArray := prog_13_method_42_code
def yX11_stepWord : MethodName := ⟨RX11, "stepWord", "()I"⟩
abbrev cX11_testWord : ByteArray := prog_13_method_43_code
def yX11_testWord : MethodName := ⟨RX11, "testWord", "()I"⟩
abbrev cX11_isEnd : ByteArray := prog_13_method_44_code
def yX11_isEnd : MethodName := ⟨RX11, "isEnd", "()Z"⟩
abbrev cX11_isKept : ByteArray := prog_13_method_45_code
def yX11_isKept : MethodName := ⟨RX11, "isKept", "()Z"⟩
abbrev cX11_isName : ByteArray := prog_13_method_46_code
def yX11_isName : MethodName := ⟨RX11, "isName", "()Z"⟩
abbrev cX11_fail : ByteArray := prog_13_method_47_code
def yX11_fail : MethodName := ⟨RX11, "fail", "(II)V"⟩
abbrev cX11_wrong : ByteArray := prog_13_method_48_code
def yX11_wrong : MethodName := ⟨RX11, "wrong", "()V"⟩
abbrev cX11_must : ByteArray := prog_13_method_49_code
def yX11_must : MethodName := ⟨RX11, "must", "(Z)V"⟩
abbrev cX11_count : ByteArray := prog_13_method_50_code
def yX11_count : MethodName := ⟨RX11, "count", "(II)I"⟩
abbrev cX11_feed : ByteArray := prog_13_method_51_code
def yX11_feed : MethodName := ⟨RX11, "feed", "(IIIII)I"⟩
abbrev cX11_lay : ByteArray := prog_13_method_52_code
def yX11_lay : MethodName := ⟨RX11, "lay", "(I)V"⟩
abbrev cX11_opens : ByteArray := prog_13_method_53_code
def yX11_opens : MethodName := ⟨RX11, "opens", "(II)Z"⟩
abbrev cX11_isWell : ByteArray := prog_13_method_54_code
def yX11_isWell : MethodName := ⟨RX11, "isWell", "()Z"⟩
abbrev cX11_fault : ByteArray := prog_13_method_55_code
def yX11_fault : MethodName := ⟨RX11, "fault", "(I)I"⟩
abbrev cX11_named : ByteArray := prog_13_method_56_code
def yX11_named : MethodName := ⟨RX11, "named", "(III)I"⟩
abbrev cX11_personNamed : ByteArray := prog_13_method_57_code
def yX11_personNamed : MethodName := ⟨RX11, "personNamed", "(I)I"⟩
abbrev cX11_ovenNamed : ByteArray := prog_13_method_58_code
def yX11_ovenNamed : MethodName := ⟨RX11, "ovenNamed", "(I)I"⟩
abbrev cX11_loafNamed : ByteArray := prog_13_method_59_code
def yX11_loafNamed : MethodName := ⟨RX11, "loafNamed", "(I)I"⟩
abbrev cX11_readNew : ByteArray := prog_13_method_60_code
def yX11_readNew : MethodName := ⟨RX11, "readNew", "(I)V"⟩
abbrev cX11_told : ByteArray := prog_13_method_61_code
def yX11_told : MethodName := ⟨RX11, "told", "(II)I"⟩
abbrev cX11_readTold : ByteArray := prog_13_method_62_code
def yX11_readTold : MethodName := ⟨RX11, "readTold", "(II)I"⟩
abbrev cX11_readPerson : ByteArray := prog_13_method_63_code
def yX11_readPerson : MethodName := ⟨RX11, "readPerson", "()V"⟩
abbrev cX11_readOven : ByteArray := prog_13_method_64_code
def yX11_readOven : MethodName := ⟨RX11, "readOven", "()V"⟩
abbrev cX11_readLoaf : ByteArray := prog_13_method_65_code
def yX11_readLoaf : MethodName := ⟨RX11, "readLoaf", "()V"⟩
abbrev cX11_readPart : ByteArray := prog_13_method_66_code
def yX11_readPart : MethodName := ⟨RX11, "readPart", "(II)V"⟩
abbrev cX11_readPromise : ByteArray := prog_13_method_67_code
def yX11_readPromise : MethodName := ⟨RX11, "readPromise", "()V"⟩
abbrev cX11_town : ByteArray := prog_13_method_68_code
def yX11_town : MethodName := ⟨RX11, "town", "(I)I"⟩
abbrev cX11_readTest : ByteArray := prog_13_method_69_code
def yX11_readTest : MethodName := ⟨RX11, "readTest", "(I)V"⟩
abbrev cX11_readRest : ByteArray := prog_13_method_70_code
def yX11_readRest : MethodName := ⟨RX11, "readRest", "(I)V"⟩
abbrev cX11_readStep : ByteArray := prog_13_method_71_code
def yX11_readStep : MethodName := ⟨RX11, "readStep", "(I)V"⟩
abbrev cX11_days : ByteArray := prog_13_method_72_code
def yX11_days : MethodName := ⟨RX11, "days", "(I)I"⟩
abbrev cX11_isPersonAt : ByteArray := prog_13_method_73_code
def yX11_isPersonAt : MethodName := ⟨RX11, "isPersonAt", "(I)Z"⟩
abbrev cX11_isLoafAt : ByteArray := prog_13_method_74_code
def yX11_isLoafAt : MethodName := ⟨RX11, "isLoafAt", "(I)Z"⟩
abbrev cX11_isPromiseAt : ByteArray := prog_13_method_75_code
def yX11_isPromiseAt : MethodName := ⟨RX11, "isPromiseAt", "(I)Z"⟩
abbrev cX11_isBaked : ByteArray := prog_13_method_76_code
def yX11_isBaked : MethodName := ⟨RX11, "isBaked", "(I)Z"⟩
abbrev cX11_isPaper : ByteArray := prog_13_method_77_code
def yX11_isPaper : MethodName := ⟨RX11, "isPaper", "(I)Z"⟩
abbrev cX11_part : ByteArray := prog_13_method_78_code
def yX11_part : MethodName := ⟨RX11, "part", "(I)I"⟩
abbrev cX11_isMade : ByteArray := prog_13_method_79_code
def yX11_isMade : MethodName := ⟨RX11, "isMade", "(I)Z"⟩
abbrev cX11_isOfLoaf : ByteArray := prog_13_method_80_code
def yX11_isOfLoaf : MethodName := ⟨RX11, "isOfLoaf", "(II)Z"⟩
abbrev cX11_has : ByteArray := prog_13_method_81_code
def yX11_has : MethodName := ⟨RX11, "has", "(II)Z"⟩
abbrev cX11_bakedSet : ByteArray := prog_13_method_82_code
def yX11_bakedSet : MethodName := ⟨RX11, "bakedSet", "()I"⟩
abbrev cX11_many : ByteArray := prog_13_method_83_code
def yX11_many : MethodName := ⟨RX11, "many", "(I)I"⟩
abbrev cX11_person : ByteArray := prog_13_method_84_code
def yX11_person : MethodName := ⟨RX11, "person", "(II)I"⟩
abbrev cX11_loaf : ByteArray := prog_13_method_85_code
def yX11_loaf : MethodName := ⟨RX11, "loaf", "(II)I"⟩
abbrev cX11_promise : ByteArray := prog_13_method_86_code
def yX11_promise : MethodName := ⟨RX11, "promise", "(II)I"⟩
abbrev cX11_holdsOf : ByteArray := prog_13_method_87_code
def yX11_holdsOf : MethodName := ⟨RX11, "holdsOf", "(II)I"⟩
abbrev cX11_holds : ByteArray := prog_13_method_88_code
def yX11_holds : MethodName := ⟨RX11, "holds", "(II)I"⟩
abbrev cX11_deepens : ByteArray := prog_13_method_89_code
def yX11_deepens : MethodName := ⟨RX11, "deepens", "()V"⟩
abbrev cX11_deep : ByteArray := prog_13_method_90_code
def yX11_deep : MethodName := ⟨RX11, "deep", "(I)I"⟩
abbrev cX11_depth : ByteArray := prog_13_method_91_code
def yX11_depth : MethodName := ⟨RX11, "depth", "(I)I"⟩
abbrev cX11_turnOf : ByteArray := prog_13_method_92_code
def yX11_turnOf : MethodName := ⟨RX11, "turnOf", "(II)I"⟩
abbrev cX11_first : ByteArray := prog_13_method_93_code
def yX11_first : MethodName := ⟨RX11, "first", "(III)I"⟩
abbrev cX11_lines : ByteArray := prog_13_method_94_code
def yX11_lines : MethodName := ⟨RX11, "lines", "(I)V"⟩
abbrev cX11_comes : ByteArray := prog_13_method_95_code
def yX11_comes : MethodName := ⟨RX11, "comes", "(IZ)I"⟩
abbrev cX11_deals : ByteArray := prog_13_method_96_code
def yX11_deals : MethodName := ⟨RX11, "deals", "(IZ)V"⟩
abbrev cX11_getsOf : ByteArray := prog_13_method_97_code
def yX11_getsOf : MethodName := ⟨RX11, "getsOf", "(IIZ)I"⟩
abbrev cX11_line : ByteArray := prog_13_method_98_code
def yX11_line : MethodName := ⟨RX11, "line", "(II)I"⟩
abbrev cX11_whose : ByteArray := prog_13_method_99_code
def yX11_whose : MethodName := ⟨RX11, "whose", "(IIZ)I"⟩
abbrev cX11_gets : ByteArray := prog_13_method_100_code
def yX11_gets : MethodName := ⟨RX11, "gets", "(IIZ)I"⟩
abbrev cX11_unmet : ByteArray := prog_13_method_101_code
def yX11_unmet : MethodName := ⟨RX11, "unmet", "(IZ)I"⟩
abbrev cX11_owesOf : ByteArray := prog_13_method_102_code
def yX11_owesOf : MethodName := ⟨RX11, "owesOf", "(II)I"⟩
abbrev cX11_shame : ByteArray := prog_13_method_103_code
def yX11_shame : MethodName := ⟨RX11, "shame", "(IZ)I"⟩
abbrev cX11_mean : ByteArray := prog_13_method_104_code
def yX11_mean : MethodName := ⟨RX11, "mean", "(III)Z"⟩
abbrev cX11_between : ByteArray := prog_13_method_105_code
def yX11_between : MethodName := ⟨RX11, "between", "(II)I"⟩
abbrev cX11_owing : ByteArray := prog_13_method_106_code
def yX11_owing : MethodName := ⟨RX11, "owing", "(I)I"⟩
abbrev cX11_netOf : ByteArray := prog_13_method_107_code
def yX11_netOf : MethodName := ⟨RX11, "netOf", "(I)I"⟩
abbrev cX11_net : ByteArray := prog_13_method_108_code
def yX11_net : MethodName := ⟨RX11, "net", "(I)I"⟩
abbrev cX11_handOvers : ByteArray := prog_13_method_109_code
def yX11_handOvers : MethodName := ⟨RX11, "handOvers", "()I"⟩
abbrev cX11_goesRound : ByteArray := prog_13_method_110_code
def yX11_goesRound : MethodName := ⟨RX11, "goesRound", "(III)Z"⟩
abbrev cX11_ring : ByteArray := prog_13_method_111_code
def yX11_ring : MethodName := ⟨RX11, "ring", "()I"⟩
abbrev cX11_ringAt : ByteArray := prog_13_method_112_code
def yX11_ringAt : MethodName := ⟨RX11, "ringAt", "(I)I"⟩
abbrev cX11_isOpen : ByteArray := prog_13_method_113_code
def yX11_isOpen : MethodName := ⟨RX11, "isOpen", "(I)Z"⟩
abbrev cX11_saved : ByteArray := prog_13_method_114_code
def yX11_saved : MethodName := ⟨RX11, "saved", "(III)I"⟩
abbrev cX11_faces : ByteArray := prog_13_method_115_code
def yX11_faces : MethodName := ⟨RX11, "faces", "()I"⟩
abbrev cX11_isHeld : ByteArray := prog_13_method_116_code
def yX11_isHeld : MethodName := ⟨RX11, "isHeld", "(I)Z"⟩
abbrev cX11_keeps : ByteArray := prog_13_method_117_code
def yX11_keeps : MethodName := ⟨RX11, "keeps", "(III)I"⟩
abbrev cX11_burst : ByteArray := prog_13_method_118_code
def yX11_burst : MethodName := ⟨RX11, "burst", "()I"⟩
abbrev cX11_cuts : ByteArray := prog_13_method_119_code
def yX11_cuts : MethodName := ⟨RX11, "cuts", "(IIIII)I"⟩
abbrev cX11_auction : ByteArray := prog_13_method_120_code
def yX11_auction : MethodName := ⟨RX11, "auction", "(III)I"⟩
abbrev cX11_makes : ByteArray := prog_13_method_121_code
def yX11_makes : MethodName := ⟨RX11, "makes", "(IIIII)I"⟩
abbrev cX11_make : ByteArray := prog_13_method_122_code
def yX11_make : MethodName := ⟨RX11, "make", "(IIIII)I"⟩
abbrev cX11_breaks : ByteArray := prog_13_method_123_code
def yX11_breaks : MethodName := ⟨RX11, "breaks", "(I)Z"⟩
abbrev cX11_letGo : ByteArray := prog_13_method_124_code
def yX11_letGo : MethodName := ⟨RX11, "letGo", "(I)Z"⟩
abbrev cX11_isWetOven : ByteArray := prog_13_method_125_code
def yX11_isWetOven : MethodName := ⟨RX11, "isWetOven", "(I)Z"⟩
abbrev cX11_bakes : ByteArray := prog_13_method_126_code
def yX11_bakes : MethodName := ⟨RX11, "bakes", "(I)I"⟩
abbrev cX11_bake : ByteArray := prog_13_method_127_code
def yX11_bake : MethodName := ⟨RX11, "bake", "(I)I"⟩
abbrev cX11_pass : ByteArray := prog_13_method_128_code
def yX11_pass : MethodName := ⟨RX11, "pass", "(I)I"⟩
abbrev cX11_eats : ByteArray := prog_13_method_129_code
def yX11_eats : MethodName := ⟨RX11, "eats", "(II)I"⟩
abbrev cX11_eat : ByteArray := prog_13_method_130_code
def yX11_eat : MethodName := ⟨RX11, "eat", "(II)I"⟩
abbrev cX11_pays : ByteArray := prog_13_method_131_code
def yX11_pays : MethodName := ⟨RX11, "pays", "(III)Z"⟩
abbrev cX11_pay : ByteArray := prog_13_method_132_code
def yX11_pay : MethodName := ⟨RX11, "pay", "(III)Z"⟩
abbrev cX11_draw : ByteArray := prog_13_method_133_code
def yX11_draw : MethodName := ⟨RX11, "draw", "()I"⟩
abbrev cX11_waits : ByteArray := prog_13_method_134_code
def yX11_waits : MethodName := ⟨RX11, "waits", "(I)Z"⟩
abbrev cX11_does : ByteArray := prog_13_method_135_code
def yX11_does : MethodName := ⟨RX11, "does", "(I)Z"⟩
abbrev cX11_isSo : ByteArray := prog_13_method_136_code
def yX11_isSo : MethodName := ⟨RX11, "isSo", "(I)Z"⟩
abbrev cX11_doOne : ByteArray := prog_13_method_137_code
def yX11_doOne : MethodName := ⟨RX11, "doOne", "(I)V"⟩
abbrev cX11_doAll : ByteArray := prog_13_method_138_code
def yX11_doAll : MethodName := ⟨RX11, "doAll", "(II)V"⟩
abbrev cX11_lives : ByteArray := prog_13_method_139_code
def yX11_lives : MethodName := ⟨RX11, "lives", "(I)V"⟩
abbrev cX11_live : ByteArray := prog_13_method_140_code
def yX11_live : MethodName := ⟨RX11, "live", "(I)I"⟩
abbrev cX11_lived : ByteArray := prog_13_method_141_code
def yX11_lived : MethodName := ⟨RX11, "lived", "(I)I"⟩
abbrev cX11_odds : ByteArray := prog_13_method_142_code
def yX11_odds : MethodName := ⟨RX11, "odds", "(IIII)Z"⟩
abbrev cX11_copy : ByteArray := prog_13_method_143_code
def yX11_copy : MethodName := ⟨RX11, "copy", "(II)V"⟩
abbrev cX11_mark : ByteArray := prog_13_method_144_code
def yX11_mark : MethodName := ⟨RX11, "mark", "()I"⟩
abbrev cX11_back : ByteArray := prog_13_method_145_code
def yX11_back : MethodName := ⟨RX11, "back", "()I"⟩
def RJx145de : String := "java/io/Serializable"
def TJx145de : u_T := fun k => match k with
  | _ => ("", "", "", false)
def tyJx145de : Nat → FieldType := fun k => match k with
  | _ => .int
abbrev wsJx145de0 : List Cond := u_ws RJx145de TJx145de 0
theorem nmJx145de : ∀ a, a < 0 → ∀ b, b < 0 → a ≠ b → (TJx145de a).2.1 ≠ (TJx145de b).2.1 := by decide +kernel
theorem tyJx145de_ok : ∀ k, k < 0 → parseFieldDescriptor (TJx145de k).2.2.1 = some (tyJx145de k) := by decide +kernel
def RJx9f9b0 : String := "java/lang/CharSequence"
def TJx9f9b0 : u_T := fun k => match k with
  | _ => ("", "", "", false)
def tyJx9f9b0 : Nat → FieldType := fun k => match k with
  | _ => .int
abbrev wsJx9f9b00 : List Cond := u_ws RJx9f9b0 TJx9f9b0 0
theorem nmJx9f9b0 : ∀ a, a < 0 → ∀ b, b < 0 → a ≠ b → (TJx9f9b0 a).2.1 ≠ (TJx9f9b0 b).2.1 := by decide +kernel
theorem tyJx9f9b0_ok : ∀ k, k < 0 → parseFieldDescriptor (TJx9f9b0 k).2.2.1 = some (tyJx9f9b0 k) := by decide +kernel
def RJxb160c : String := "java/lang/Comparable"
def TJxb160c : u_T := fun k => match k with
  | _ => ("", "", "", false)
def tyJxb160c : Nat → FieldType := fun k => match k with
  | _ => .int
abbrev wsJxb160c0 : List Cond := u_ws RJxb160c TJxb160c 0
theorem nmJxb160c : ∀ a, a < 0 → ∀ b, b < 0 → a ≠ b → (TJxb160c a).2.1 ≠ (TJxb160c b).2.1 := by decide +kernel
theorem tyJxb160c_ok : ∀ k, k < 0 → parseFieldDescriptor (TJxb160c k).2.2.1 = some (tyJxb160c k) := by decide +kernel
def RJ9 : String := "java/lang/Math"
def TJ9 : u_T := fun k => match k with
  | _ => ("", "", "", false)
def tyJ9 : Nat → FieldType := fun k => match k with
  | _ => .int
abbrev wsJ90 : List Cond := u_ws RJ9 TJ9 0
theorem nmJ9 : ∀ a, a < 0 → ∀ b, b < 0 → a ≠ b → (TJ9 a).2.1 ≠ (TJ9 b).2.1 := by decide +kernel
theorem tyJ9_ok : ∀ k, k < 0 → parseFieldDescriptor (TJ9 k).2.2.1 = some (tyJ9 k) := by decide +kernel
abbrev cJ9_abs_067f4 : ByteArray := prog_14_method_61_code
def yJ9_abs_067f4 : MethodName := ⟨RJ9, "abs", "(J)J"⟩
abbrev cJ9_max_7cf53 : ByteArray := prog_14_method_65_code
def yJ9_max_7cf53 : MethodName := ⟨RJ9, "max", "(II)I"⟩
abbrev cJ9_max_f86c9 : ByteArray := prog_14_method_66_code
def yJ9_max_f86c9 : MethodName := ⟨RJ9, "max", "(JJ)J"⟩
abbrev cJ9_min_7cf53 : ByteArray := prog_14_method_69_code
def yJ9_min_7cf53 : MethodName := ⟨RJ9, "min", "(II)I"⟩
def RJ0 : String := "java/lang/String"
def TJ0 : u_T := fun k => match k with
  | _ => ("", "", "", false)
def tyJ0 : Nat → FieldType := fun k => match k with
  | _ => .int
abbrev wsJ00 : List Cond := u_ws RJ0 TJ0 0
theorem nmJ0 : ∀ a, a < 0 → ∀ b, b < 0 → a ≠ b → (TJ0 a).2.1 ≠ (TJ0 b).2.1 := by decide +kernel
theorem tyJ0_ok : ∀ k, k < 0 → parseFieldDescriptor (TJ0 k).2.2.1 = some (tyJ0 k) := by decide +kernel
abbrev cJ0_length_8abf5 : ByteArray := prog_15_method_54_code
def yJ0_length_8abf5 : MethodName := ⟨RJ0, "length", "()I"⟩
abbrev cJ0_charAt_5068e : ByteArray := prog_15_method_56_code
def yJ0_charAt_5068e : MethodName := ⟨RJ0, "charAt", "(I)C"⟩
abbrev cJ0_coder_7d493 : ByteArray := prog_15_method_152_code
def yJ0_coder_7d493 : MethodName := ⟨RJ0, "coder", "()B"⟩
abbrev cJ0_isLatin1_aae02 : ByteArray := prog_15_method_154_code
def yJ0_isLatin1_aae02 : MethodName := ⟨RJ0, "isLatin1", "()Z"⟩
abbrev cJ0_checkIndex_df160 : ByteArray := prog_15_method_155_code
def yJ0_checkIndex_df160 : MethodName := ⟨RJ0, "checkIndex", "(II)V"⟩
def RJ1 : String := "java/lang/StringLatin1"
def TJ1 : u_T := fun k => match k with
  | _ => ("", "", "", false)
def tyJ1 : Nat → FieldType := fun k => match k with
  | _ => .int
abbrev wsJ10 : List Cond := u_ws RJ1 TJ1 0
theorem nmJ1 : ∀ a, a < 0 → ∀ b, b < 0 → a ≠ b → (TJ1 a).2.1 ≠ (TJ1 b).2.1 := by decide +kernel
theorem tyJ1_ok : ∀ k, k < 0 → parseFieldDescriptor (TJ1 k).2.2.1 = some (tyJ1 k) := by decide +kernel
abbrev cJ1_charAt_3b067 : ByteArray := prog_16_method_2_code
def yJ1_charAt_3b067 : MethodName := ⟨RJ1, "charAt", "([BI)C"⟩
def RJ2 : String := "java/lang/StringUTF16"
def TJ2 : u_T := fun k => match k with
  | _ => ("", "", "", false)
def tyJ2 : Nat → FieldType := fun k => match k with
  | _ => .int
abbrev wsJ20 : List Cond := u_ws RJ2 TJ2 0
theorem nmJ2 : ∀ a, a < 0 → ∀ b, b < 0 → a ≠ b → (TJ2 a).2.1 ≠ (TJ2 b).2.1 := by decide +kernel
theorem tyJ2_ok : ∀ k, k < 0 → parseFieldDescriptor (TJ2 k).2.2.1 = some (tyJ2 k) := by decide +kernel
abbrev cJ2_getChar_3b067 : ByteArray := prog_17_method_5_code
def yJ2_getChar_3b067 : MethodName := ⟨RJ2, "getChar", "([BI)C"⟩
abbrev cJ2_length_9d52b : ByteArray := prog_17_method_6_code
def yJ2_length_9d52b : MethodName := ⟨RJ2, "length", "([B)I"⟩
abbrev cJ2_charAt_3b067 : ByteArray := prog_17_method_83_code
def yJ2_charAt_3b067 : MethodName := ⟨RJ2, "charAt", "([BI)C"⟩
abbrev cJ2_checkIndex_2214a : ByteArray := prog_17_method_91_code
def yJ2_checkIndex_2214a : MethodName := ⟨RJ2, "checkIndex", "(I[B)V"⟩
def RJ10 : String := "java/lang/System"
def TJ10 : u_T := fun k => match k with
  | _ => ("", "", "", false)
def tyJ10 : Nat → FieldType := fun k => match k with
  | _ => .int
abbrev wsJ100 : List Cond := u_ws RJ10 TJ10 0
theorem nmJ10 : ∀ a, a < 0 → ∀ b, b < 0 → a ≠ b → (TJ10 a).2.1 ≠ (TJ10 b).2.1 := by decide +kernel
theorem tyJ10_ok : ∀ k, k < 0 → parseFieldDescriptor (TJ10 k).2.2.1 = some (tyJ10 k) := by decide +kernel
def RJxfd54e : String := "java/lang/constant/Constable"
def TJxfd54e : u_T := fun k => match k with
  | _ => ("", "", "", false)
def tyJxfd54e : Nat → FieldType := fun k => match k with
  | _ => .int
abbrev wsJxfd54e0 : List Cond := u_ws RJxfd54e TJxfd54e 0
theorem nmJxfd54e : ∀ a, a < 0 → ∀ b, b < 0 → a ≠ b → (TJxfd54e a).2.1 ≠ (TJxfd54e b).2.1 := by decide +kernel
theorem tyJxfd54e_ok : ∀ k, k < 0 → parseFieldDescriptor (TJxfd54e k).2.2.1 = some (tyJxfd54e k) := by decide +kernel
def RJx3cf43 : String := "java/lang/constant/ConstantDesc"
def TJx3cf43 : u_T := fun k => match k with
  | _ => ("", "", "", false)
def tyJx3cf43 : Nat → FieldType := fun k => match k with
  | _ => .int
abbrev wsJx3cf430 : List Cond := u_ws RJx3cf43 TJx3cf43 0
theorem nmJx3cf43 : ∀ a, a < 0 → ∀ b, b < 0 → a ≠ b → (TJx3cf43 a).2.1 ≠ (TJx3cf43 b).2.1 := by decide +kernel
theorem tyJx3cf43_ok : ∀ k, k < 0 → parseFieldDescriptor (TJx3cf43 k).2.2.1 = some (tyJx3cf43 k) := by decide +kernel
def RJ7 : String := "java/util/Arrays"
def TJ7 : u_T := fun k => match k with
  | _ => ("", "", "", false)
def tyJ7 : Nat → FieldType := fun k => match k with
  | _ => .int
abbrev wsJ70 : List Cond := u_ws RJ7 TJ7 0
theorem nmJ7 : ∀ a, a < 0 → ∀ b, b < 0 → a ≠ b → (TJ7 a).2.1 ≠ (TJ7 b).2.1 := by decide +kernel
theorem tyJ7_ok : ∀ k, k < 0 → parseFieldDescriptor (TJ7 k).2.2.1 = some (tyJ7 k) := by decide +kernel
abbrev cJ7_fill_d0a16 : ByteArray := prog_19_method_101_code
def yJ7_fill_d0a16 : MethodName := ⟨RJ7, "fill", "([JJ)V"⟩
abbrev cJ7_fill_53178 : ByteArray := prog_19_method_103_code
def yJ7_fill_53178 : MethodName := ⟨RJ7, "fill", "([II)V"⟩
def RJ3 : String := "jdk/internal/util/Preconditions"
def TJ3 : u_T := fun k => match k with
  | _ => ("", "", "", false)
def tyJ3 : Nat → FieldType := fun k => match k with
  | _ => .int
abbrev wsJ30 : List Cond := u_ws RJ3 TJ3 0
theorem nmJ3 : ∀ a, a < 0 → ∀ b, b < 0 → a ≠ b → (TJ3 a).2.1 ≠ (TJ3 b).2.1 := by decide +kernel
theorem tyJ3_ok : ∀ k, k < 0 → parseFieldDescriptor (TJ3 k).2.2.1 = some (tyJ3 k) := by decide +kernel
abbrev cJ3_checkIndex_8e157 : ByteArray := prog_20_method_11_code
def yJ3_checkIndex_8e157 : MethodName := ⟨RJ3, "checkIndex", "(IILjava/util/function/BiFunction;)I"⟩
def RL : String := "PaperBreadLaw"
abbrev cL_law : ByteArray := code
def yL_law : MethodName := ⟨RL, "law", "([I)Z"⟩
abbrev vwCl : List vw_C := [(RX0, TX0, 6), (RX1, TX1, 9), (RX2, TX2, 1), (RX3, TX3, 5), (RX4, TX4, 9), (RX5, TX5, 7), (RX6, TX6, 2), (RX7, TX7, 11), (RX8, TX8, 19), (RX9, TX9, 3), (RX10, TX10, 16), (RX11, TX11, 46)]
set_option maxRecDepth 20000 in
theorem inX0 : ∀ w ∈ wsX00, w ∈ lw_tbl := fun w h => by
  have e : wsX00 = ([375, 377, 379, 381, 383, 385] : List Nat).filterMap (fun i => lw_tbl[i]?) := by decide +kernel
  rw [e] at h
  obtain ⟨i, -, hi⟩ := List.mem_filterMap.mp h
  exact List.mem_of_getElem? hi
set_option maxRecDepth 20000 in
theorem inX1 : ∀ w ∈ wsX10, w ∈ lw_tbl := fun w h => by
  have e : wsX10 = ([566, 568, 570, 572, 574, 576, 578, 580, 582] : List Nat).filterMap (fun i => lw_tbl[i]?) := by decide +kernel
  rw [e] at h
  obtain ⟨i, -, hi⟩ := List.mem_filterMap.mp h
  exact List.mem_of_getElem? hi
set_option maxRecDepth 20000 in
theorem inX2 : ∀ w ∈ wsX20, w ∈ lw_tbl := fun w h => by
  have e : wsX20 = ([294] : List Nat).filterMap (fun i => lw_tbl[i]?) := by decide +kernel
  rw [e] at h
  obtain ⟨i, -, hi⟩ := List.mem_filterMap.mp h
  exact List.mem_of_getElem? hi
set_option maxRecDepth 20000 in
theorem inX3 : ∀ w ∈ wsX30, w ∈ lw_tbl := fun w h => by
  have e : wsX30 = ([532, 534, 536, 538, 540] : List Nat).filterMap (fun i => lw_tbl[i]?) := by decide +kernel
  rw [e] at h
  obtain ⟨i, -, hi⟩ := List.mem_filterMap.mp h
  exact List.mem_of_getElem? hi
set_option maxRecDepth 20000 in
theorem inX4 : ∀ w ∈ wsX40, w ∈ lw_tbl := fun w h => by
  have e : wsX40 = ([337, 339, 341, 343, 345, 347, 349, 351, 353] : List Nat).filterMap (fun i => lw_tbl[i]?) := by decide +kernel
  rw [e] at h
  obtain ⟨i, -, hi⟩ := List.mem_filterMap.mp h
  exact List.mem_of_getElem? hi
set_option maxRecDepth 20000 in
theorem inX5 : ∀ w ∈ wsX50, w ∈ lw_tbl := fun w h => by
  have e : wsX50 = ([504, 506, 508, 510, 512, 514, 516] : List Nat).filterMap (fun i => lw_tbl[i]?) := by decide +kernel
  rw [e] at h
  obtain ⟨i, -, hi⟩ := List.mem_filterMap.mp h
  exact List.mem_of_getElem? hi
set_option maxRecDepth 20000 in
theorem inX6 : ∀ w ∈ wsX60, w ∈ lw_tbl := fun w h => by
  have e : wsX60 = ([276, 278] : List Nat).filterMap (fun i => lw_tbl[i]?) := by decide +kernel
  rw [e] at h
  obtain ⟨i, -, hi⟩ := List.mem_filterMap.mp h
  exact List.mem_of_getElem? hi
set_option maxRecDepth 20000 in
theorem inX7 : ∀ w ∈ wsX70, w ∈ lw_tbl := fun w h => by
  have e : wsX70 = ([249, 251, 253, 255, 257, 259, 261, 263, 265, 267, 269] : List Nat).filterMap (fun i => lw_tbl[i]?) := by decide +kernel
  rw [e] at h
  obtain ⟨i, -, hi⟩ := List.mem_filterMap.mp h
  exact List.mem_of_getElem? hi
set_option maxRecDepth 20000 in
theorem inX8 : ∀ w ∈ wsX80, w ∈ lw_tbl := fun w h => by
  have e : wsX80 = ([442, 444, 446, 448, 450, 452, 454, 456, 458, 460, 462, 464, 466, 468, 470, 472, 474, 476, 478] : List Nat).filterMap (fun i => lw_tbl[i]?) := by decide +kernel
  rw [e] at h
  obtain ⟨i, -, hi⟩ := List.mem_filterMap.mp h
  exact List.mem_of_getElem? hi
set_option maxRecDepth 20000 in
theorem inX9 : ∀ w ∈ wsX90, w ∈ lw_tbl := fun w h => by
  have e : wsX90 = ([163, 165, 167] : List Nat).filterMap (fun i => lw_tbl[i]?) := by decide +kernel
  rw [e] at h
  obtain ⟨i, -, hi⟩ := List.mem_filterMap.mp h
  exact List.mem_of_getElem? hi
set_option maxRecDepth 20000 in
theorem inX10 : ∀ w ∈ wsX100, w ∈ lw_tbl := fun w h => by
  have e : wsX100 = ([601, 603, 605, 607, 609, 611, 613, 615, 617, 619, 621, 623, 625, 627, 629, 631] : List Nat).filterMap (fun i => lw_tbl[i]?) := by decide +kernel
  rw [e] at h
  obtain ⟨i, -, hi⟩ := List.mem_filterMap.mp h
  exact List.mem_of_getElem? hi
set_option maxRecDepth 20000 in
theorem inX11 : ∀ w ∈ wsX110, w ∈ lw_tbl := fun w h => by
  have e : wsX110 = ([1428, 1430, 1432, 1434, 1436, 1438, 1440, 1442, 1444, 1446, 1448, 1450, 1452, 1454, 1456, 1458, 1460, 1462, 1464, 1466, 1468, 1470, 1472, 1474, 1476, 1478, 1480, 1482, 1484, 1486, 1488, 1490, 1492, 1494, 1496, 1498, 1500, 1502, 1504, 1506, 1508, 1510, 1512, 1514, 1516, 1518] : List Nat).filterMap (fun i => lw_tbl[i]?) := by decide +kernel
  rw [e] at h
  obtain ⟨i, -, hi⟩ := List.mem_filterMap.mp h
  exact List.mem_of_getElem? hi
