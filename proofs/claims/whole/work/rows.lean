section
-- ===== PART A: goes FIRST, ahead of the names: the tables' words, and 'selects' of the private methods out of them =====
/-- a private method of a class that the tables say can be made, by its rows of tables_1 -/
def lw_okq (q : MethodName × Nat) : Prop := (q.1.cls ≠ "java/lang/invoke/MethodHandle" ∧ q.1.cls ≠ "java/lang/invoke/VarHandle") ∧ Cond.instantiable q.1.cls q.2 ∈ tables_1 ∧ Cond.privateMethod q.1 ∈ tables_1 ∧ Cond.instanceMethod q.1 ∈ tables_1
theorem lw_p0 : lw_okq (⟨"GrammarLines", "mayBeVerbWord", "(I)Z"⟩, 13) := ⟨⟨by decide +kernel, by decide +kernel⟩, List.mem_of_getElem? (i := 15) (by decide +kernel), List.mem_of_getElem? (i := 333) (by decide +kernel), List.mem_of_getElem? (i := 334) (by decide +kernel)⟩
theorem lw_p1 : lw_okq (⟨"GrammarLines$Things", "withAnyOf", "(I)J"⟩, 8) := ⟨⟨by decide +kernel, by decide +kernel⟩, List.mem_of_getElem? (i := 23) (by decide +kernel), List.mem_of_getElem? (i := 454) (by decide +kernel), List.mem_of_getElem? (i := 455) (by decide +kernel)⟩
theorem lw_p2 : lw_okq (⟨"GrammarLines$Values", "indexOf", "(II)I"⟩, 3) := ⟨⟨by decide +kernel, by decide +kernel⟩, List.mem_of_getElem? (i := 118) (by decide +kernel), List.mem_of_getElem? (i := 490) (by decide +kernel), List.mem_of_getElem? (i := 491) (by decide +kernel)⟩
theorem lw_p3 : lw_okq (⟨"GrammarLines", "takeOrder", "()I"⟩, 13) := ⟨⟨by decide +kernel, by decide +kernel⟩, List.mem_of_getElem? (i := 15) (by decide +kernel), List.mem_of_getElem? (i := 531) (by decide +kernel), List.mem_of_getElem? (i := 532) (by decide +kernel)⟩
theorem lw_p4 : lw_okq (⟨"GrammarLines", "takeCommand", "()V"⟩, 13) := ⟨⟨by decide +kernel, by decide +kernel⟩, List.mem_of_getElem? (i := 15) (by decide +kernel), List.mem_of_getElem? (i := 563) (by decide +kernel), List.mem_of_getElem? (i := 564) (by decide +kernel)⟩
theorem lw_p5 : lw_okq (⟨"GrammarLines", "endsCommand", "(I)Z"⟩, 13) := ⟨⟨by decide +kernel, by decide +kernel⟩, List.mem_of_getElem? (i := 15) (by decide +kernel), List.mem_of_getElem? (i := 567) (by decide +kernel), List.mem_of_getElem? (i := 568) (by decide +kernel)⟩
theorem lw_p6 : lw_okq (⟨"GrammarLines", "chooseCommand", "(I)I"⟩, 13) := ⟨⟨by decide +kernel, by decide +kernel⟩, List.mem_of_getElem? (i := 15) (by decide +kernel), List.mem_of_getElem? (i := 574) (by decide +kernel), List.mem_of_getElem? (i := 575) (by decide +kernel)⟩
theorem lw_p7 : lw_okq (⟨"GrammarLines", "tryCommand", "()I"⟩, 13) := ⟨⟨by decide +kernel, by decide +kernel⟩, List.mem_of_getElem? (i := 15) (by decide +kernel), List.mem_of_getElem? (i := 585) (by decide +kernel), List.mem_of_getElem? (i := 586) (by decide +kernel)⟩
theorem lw_p8 : lw_okq (⟨"GrammarLines$Trial", "begin", "(I)V"⟩, 13) := ⟨⟨by decide +kernel, by decide +kernel⟩, List.mem_of_getElem? (i := 159) (by decide +kernel), List.mem_of_getElem? (i := 606) (by decide +kernel), List.mem_of_getElem? (i := 607) (by decide +kernel)⟩
theorem lw_p9 : lw_okq (⟨"GrammarLines$Trial", "fillOrAsk", "(I)V"⟩, 13) := ⟨⟨by decide +kernel, by decide +kernel⟩, List.mem_of_getElem? (i := 159) (by decide +kernel), List.mem_of_getElem? (i := 619) (by decide +kernel), List.mem_of_getElem? (i := 620) (by decide +kernel)⟩
theorem lw_p10 : lw_okq (⟨"GrammarLines$Trial", "fail", "(II)V"⟩, 13) := ⟨⟨by decide +kernel, by decide +kernel⟩, List.mem_of_getElem? (i := 159) (by decide +kernel), List.mem_of_getElem? (i := 627) (by decide +kernel), List.mem_of_getElem? (i := 628) (by decide +kernel)⟩
theorem lw_p11 : lw_okq (⟨"GrammarLines$Trial", "fillFrom", "(I)Z"⟩, 13) := ⟨⟨by decide +kernel, by decide +kernel⟩, List.mem_of_getElem? (i := 159) (by decide +kernel), List.mem_of_getElem? (i := 631) (by decide +kernel), List.mem_of_getElem? (i := 632) (by decide +kernel)⟩
theorem lw_p12 : lw_okq (⟨"GrammarLines$Trial", "openSlot", "(I)LGrammarLines$Slot;"⟩, 13) := ⟨⟨by decide +kernel, by decide +kernel⟩, List.mem_of_getElem? (i := 159) (by decide +kernel), List.mem_of_getElem? (i := 648) (by decide +kernel), List.mem_of_getElem? (i := 649) (by decide +kernel)⟩
theorem lw_p13 : lw_okq (⟨"GrammarLines$Trial", "takeWord", "(I)V"⟩, 13) := ⟨⟨by decide +kernel, by decide +kernel⟩, List.mem_of_getElem? (i := 159) (by decide +kernel), List.mem_of_getElem? (i := 653) (by decide +kernel), List.mem_of_getElem? (i := 654) (by decide +kernel)⟩
theorem lw_p14 : lw_okq (⟨"GrammarLines$Trial", "takeTopic", "(I)V"⟩, 13) := ⟨⟨by decide +kernel, by decide +kernel⟩, List.mem_of_getElem? (i := 159) (by decide +kernel), List.mem_of_getElem? (i := 663) (by decide +kernel), List.mem_of_getElem? (i := 664) (by decide +kernel)⟩
theorem lw_p15 : lw_okq (⟨"GrammarLines$Trial", "takeNumber", "()V"⟩, 13) := ⟨⟨by decide +kernel, by decide +kernel⟩, List.mem_of_getElem? (i := 159) (by decide +kernel), List.mem_of_getElem? (i := 667) (by decide +kernel), List.mem_of_getElem? (i := 668) (by decide +kernel)⟩
def lw_privs_1 : List (MethodName × Nat) := [(⟨"GrammarLines", "mayBeVerbWord", "(I)Z"⟩, 13), (⟨"GrammarLines$Things", "withAnyOf", "(I)J"⟩, 8), (⟨"GrammarLines$Values", "indexOf", "(II)I"⟩, 3), (⟨"GrammarLines", "takeOrder", "()I"⟩, 13), (⟨"GrammarLines", "takeCommand", "()V"⟩, 13), (⟨"GrammarLines", "endsCommand", "(I)Z"⟩, 13), (⟨"GrammarLines", "chooseCommand", "(I)I"⟩, 13), (⟨"GrammarLines", "tryCommand", "()I"⟩, 13), (⟨"GrammarLines$Trial", "begin", "(I)V"⟩, 13), (⟨"GrammarLines$Trial", "fillOrAsk", "(I)V"⟩, 13), (⟨"GrammarLines$Trial", "fail", "(II)V"⟩, 13), (⟨"GrammarLines$Trial", "fillFrom", "(I)Z"⟩, 13), (⟨"GrammarLines$Trial", "openSlot", "(I)LGrammarLines$Slot;"⟩, 13), (⟨"GrammarLines$Trial", "takeWord", "(I)V"⟩, 13), (⟨"GrammarLines$Trial", "takeTopic", "(I)V"⟩, 13), (⟨"GrammarLines$Trial", "takeNumber", "()V"⟩, 13)]
theorem lw_r1 : ∀ q ∈ lw_privs_1, lw_okq q := List.forall_mem_cons.mpr ⟨lw_p0, List.forall_mem_cons.mpr ⟨lw_p1, List.forall_mem_cons.mpr ⟨lw_p2, List.forall_mem_cons.mpr ⟨lw_p3, List.forall_mem_cons.mpr ⟨lw_p4, List.forall_mem_cons.mpr ⟨lw_p5, List.forall_mem_cons.mpr ⟨lw_p6, List.forall_mem_cons.mpr ⟨lw_p7, List.forall_mem_cons.mpr ⟨lw_p8, List.forall_mem_cons.mpr ⟨lw_p9, List.forall_mem_cons.mpr ⟨lw_p10, List.forall_mem_cons.mpr ⟨lw_p11, List.forall_mem_cons.mpr ⟨lw_p12, List.forall_mem_cons.mpr ⟨lw_p13, List.forall_mem_cons.mpr ⟨lw_p14, List.forall_mem_cons.mpr ⟨lw_p15, fun _ h => absurd h List.not_mem_nil⟩⟩⟩⟩⟩⟩⟩⟩⟩⟩⟩⟩⟩⟩⟩⟩
theorem lw_p16 : lw_okq (⟨"GrammarLines$Trial", "takeCustom", "(I)V"⟩, 13) := ⟨⟨by decide +kernel, by decide +kernel⟩, List.mem_of_getElem? (i := 159) (by decide +kernel), List.mem_of_getElem? (i := 671) (by decide +kernel), List.mem_of_getElem? (i := 672) (by decide +kernel)⟩
theorem lw_p17 : lw_okq (⟨"GrammarLines$Trial", "takeOne", "(I)V"⟩, 13) := ⟨⟨by decide +kernel, by decide +kernel⟩, List.mem_of_getElem? (i := 159) (by decide +kernel), List.mem_of_getElem? (i := 679) (by decide +kernel), List.mem_of_getElem? (i := 680) (by decide +kernel)⟩
theorem lw_p18 : lw_okq (⟨"GrammarLines$Trial", "findOne", "(I)J"⟩, 13) := ⟨⟨by decide +kernel, by decide +kernel⟩, List.mem_of_getElem? (i := 159) (by decide +kernel), List.mem_of_getElem? (i := 683) (by decide +kernel), List.mem_of_getElem? (i := 684) (by decide +kernel)⟩
theorem lw_p19 : lw_okq (⟨"GrammarLines$Trial", "takeAll", "(I)V"⟩, 13) := ⟨⟨by decide +kernel, by decide +kernel⟩, List.mem_of_getElem? (i := 159) (by decide +kernel), List.mem_of_getElem? (i := 697) (by decide +kernel), List.mem_of_getElem? (i := 698) (by decide +kernel)⟩
theorem lw_p20 : lw_okq (⟨"GrammarLines$Trial", "takeList", "(I)V"⟩, 13) := ⟨⟨by decide +kernel, by decide +kernel⟩, List.mem_of_getElem? (i := 159) (by decide +kernel), List.mem_of_getElem? (i := 705) (by decide +kernel), List.mem_of_getElem? (i := 706) (by decide +kernel)⟩
theorem lw_p21 : lw_okq (⟨"GrammarLines$Trial", "finish", "()V"⟩, 13) := ⟨⟨by decide +kernel, by decide +kernel⟩, List.mem_of_getElem? (i := 159) (by decide +kernel), List.mem_of_getElem? (i := 709) (by decide +kernel), List.mem_of_getElem? (i := 710) (by decide +kernel)⟩
theorem lw_p22 : lw_okq (⟨"GrammarLines$Trial", "takeOut", "(LGrammarLines$Slot;LGrammarLines$Slot;)V"⟩, 13) := ⟨⟨by decide +kernel, by decide +kernel⟩, List.mem_of_getElem? (i := 159) (by decide +kernel), List.mem_of_getElem? (i := 713) (by decide +kernel), List.mem_of_getElem? (i := 714) (by decide +kernel)⟩
theorem lw_p23 : lw_okq (⟨"GrammarLinesModel", "verbBy", "(I)I"⟩, 56) := ⟨⟨by decide +kernel, by decide +kernel⟩, List.mem_of_getElem? (i := 784) (by decide +kernel), List.mem_of_getElem? (i := 970) (by decide +kernel), List.mem_of_getElem? (i := 971) (by decide +kernel)⟩
theorem lw_p24 : lw_okq (⟨"GrammarLinesModel", "isOfVerb", "(II)V"⟩, 56) := ⟨⟨by decide +kernel, by decide +kernel⟩, List.mem_of_getElem? (i := 784) (by decide +kernel), List.mem_of_getElem? (i := 974) (by decide +kernel), List.mem_of_getElem? (i := 975) (by decide +kernel)⟩
theorem lw_p25 : lw_okq (⟨"GrammarLinesModel", "hasName", "(II)Z"⟩, 56) := ⟨⟨by decide +kernel, by decide +kernel⟩, List.mem_of_getElem? (i := 784) (by decide +kernel), List.mem_of_getElem? (i := 1001) (by decide +kernel), List.mem_of_getElem? (i := 1002) (by decide +kernel)⟩
theorem lw_p26 : lw_okq (⟨"GrammarLinesModel", "pairOf", "(II)I"⟩, 56) := ⟨⟨by decide +kernel, by decide +kernel⟩, List.mem_of_getElem? (i := 784) (by decide +kernel), List.mem_of_getElem? (i := 1013) (by decide +kernel), List.mem_of_getElem? (i := 1014) (by decide +kernel)⟩
theorem lw_p27 : lw_okq (⟨"GrammarLinesModel", "order", "()V"⟩, 56) := ⟨⟨by decide +kernel, by decide +kernel⟩, List.mem_of_getElem? (i := 784) (by decide +kernel), List.mem_of_getElem? (i := 1032) (by decide +kernel), List.mem_of_getElem? (i := 1033) (by decide +kernel)⟩
theorem lw_p28 : lw_okq (⟨"GrammarLinesModel", "take", "([II)V"⟩, 56) := ⟨⟨by decide +kernel, by decide +kernel⟩, List.mem_of_getElem? (i := 784) (by decide +kernel), List.mem_of_getElem? (i := 1036) (by decide +kernel), List.mem_of_getElem? (i := 1037) (by decide +kernel)⟩
theorem lw_p29 : lw_okq (⟨"GrammarLinesModel", "phrase", "(I)I"⟩, 56) := ⟨⟨by decide +kernel, by decide +kernel⟩, List.mem_of_getElem? (i := 784) (by decide +kernel), List.mem_of_getElem? (i := 1040) (by decide +kernel), List.mem_of_getElem? (i := 1041) (by decide +kernel)⟩
theorem lw_p30 : lw_okq (⟨"GrammarLinesModel", "isInScope", "(I)Z"⟩, 56) := ⟨⟨by decide +kernel, by decide +kernel⟩, List.mem_of_getElem? (i := 784) (by decide +kernel), List.mem_of_getElem? (i := 1044) (by decide +kernel), List.mem_of_getElem? (i := 1045) (by decide +kernel)⟩
theorem lw_p31 : lw_okq (⟨"GrammarLinesModel", "isHeld", "(I)Z"⟩, 56) := ⟨⟨by decide +kernel, by decide +kernel⟩, List.mem_of_getElem? (i := 784) (by decide +kernel), List.mem_of_getElem? (i := 1048) (by decide +kernel), List.mem_of_getElem? (i := 1049) (by decide +kernel)⟩
def lw_privs_2 : List (MethodName × Nat) := [(⟨"GrammarLines$Trial", "takeCustom", "(I)V"⟩, 13), (⟨"GrammarLines$Trial", "takeOne", "(I)V"⟩, 13), (⟨"GrammarLines$Trial", "findOne", "(I)J"⟩, 13), (⟨"GrammarLines$Trial", "takeAll", "(I)V"⟩, 13), (⟨"GrammarLines$Trial", "takeList", "(I)V"⟩, 13), (⟨"GrammarLines$Trial", "finish", "()V"⟩, 13), (⟨"GrammarLines$Trial", "takeOut", "(LGrammarLines$Slot;LGrammarLines$Slot;)V"⟩, 13), (⟨"GrammarLinesModel", "verbBy", "(I)I"⟩, 56), (⟨"GrammarLinesModel", "isOfVerb", "(II)V"⟩, 56), (⟨"GrammarLinesModel", "hasName", "(II)Z"⟩, 56), (⟨"GrammarLinesModel", "pairOf", "(II)I"⟩, 56), (⟨"GrammarLinesModel", "order", "()V"⟩, 56), (⟨"GrammarLinesModel", "take", "([II)V"⟩, 56), (⟨"GrammarLinesModel", "phrase", "(I)I"⟩, 56), (⟨"GrammarLinesModel", "isInScope", "(I)Z"⟩, 56), (⟨"GrammarLinesModel", "isHeld", "(I)Z"⟩, 56)]
theorem lw_r2 : ∀ q ∈ lw_privs_2, lw_okq q := List.forall_mem_cons.mpr ⟨lw_p16, List.forall_mem_cons.mpr ⟨lw_p17, List.forall_mem_cons.mpr ⟨lw_p18, List.forall_mem_cons.mpr ⟨lw_p19, List.forall_mem_cons.mpr ⟨lw_p20, List.forall_mem_cons.mpr ⟨lw_p21, List.forall_mem_cons.mpr ⟨lw_p22, List.forall_mem_cons.mpr ⟨lw_p23, List.forall_mem_cons.mpr ⟨lw_p24, List.forall_mem_cons.mpr ⟨lw_p25, List.forall_mem_cons.mpr ⟨lw_p26, List.forall_mem_cons.mpr ⟨lw_p27, List.forall_mem_cons.mpr ⟨lw_p28, List.forall_mem_cons.mpr ⟨lw_p29, List.forall_mem_cons.mpr ⟨lw_p30, List.forall_mem_cons.mpr ⟨lw_p31, fun _ h => absurd h List.not_mem_nil⟩⟩⟩⟩⟩⟩⟩⟩⟩⟩⟩⟩⟩⟩⟩⟩
theorem lw_p32 : lw_okq (⟨"GrammarLinesModel", "manyOf", "(J)I"⟩, 56) := ⟨⟨by decide +kernel, by decide +kernel⟩, List.mem_of_getElem? (i := 784) (by decide +kernel), List.mem_of_getElem? (i := 1052) (by decide +kernel), List.mem_of_getElem? (i := 1053) (by decide +kernel)⟩
theorem lw_p33 : lw_okq (⟨"GrammarLinesModel", "thingOf", "(JI)I"⟩, 56) := ⟨⟨by decide +kernel, by decide +kernel⟩, List.mem_of_getElem? (i := 784) (by decide +kernel), List.mem_of_getElem? (i := 1059) (by decide +kernel), List.mem_of_getElem? (i := 1060) (by decide +kernel)⟩
theorem lw_p34 : lw_okq (⟨"GrammarLinesModel", "isCreature", "(I)Z"⟩, 56) := ⟨⟨by decide +kernel, by decide +kernel⟩, List.mem_of_getElem? (i := 784) (by decide +kernel), List.mem_of_getElem? (i := 1063) (by decide +kernel), List.mem_of_getElem? (i := 1064) (by decide +kernel)⟩
theorem lw_p35 : lw_okq (⟨"GrammarLinesModel", "stands", "(II)Z"⟩, 56) := ⟨⟨by decide +kernel, by decide +kernel⟩, List.mem_of_getElem? (i := 784) (by decide +kernel), List.mem_of_getElem? (i := 1067) (by decide +kernel), List.mem_of_getElem? (i := 1068) (by decide +kernel)⟩
theorem lw_p36 : lw_okq (⟨"GrammarLinesModel", "off", "(I)V"⟩, 56) := ⟨⟨by decide +kernel, by decide +kernel⟩, List.mem_of_getElem? (i := 784) (by decide +kernel), List.mem_of_getElem? (i := 1071) (by decide +kernel), List.mem_of_getElem? (i := 1072) (by decide +kernel)⟩
theorem lw_p37 : lw_okq (⟨"GrammarLinesModel", "begins", "()V"⟩, 56) := ⟨⟨by decide +kernel, by decide +kernel⟩, List.mem_of_getElem? (i := 784) (by decide +kernel), List.mem_of_getElem? (i := 1075) (by decide +kernel), List.mem_of_getElem? (i := 1076) (by decide +kernel)⟩
theorem lw_p38 : lw_okq (⟨"GrammarLinesModel", "isTried", "()I"⟩, 56) := ⟨⟨by decide +kernel, by decide +kernel⟩, List.mem_of_getElem? (i := 784) (by decide +kernel), List.mem_of_getElem? (i := 1079) (by decide +kernel), List.mem_of_getElem? (i := 1080) (by decide +kernel)⟩
theorem lw_p39 : lw_okq (⟨"GrammarLinesModel", "tries", "(I)V"⟩, 56) := ⟨⟨by decide +kernel, by decide +kernel⟩, List.mem_of_getElem? (i := 784) (by decide +kernel), List.mem_of_getElem? (i := 1083) (by decide +kernel), List.mem_of_getElem? (i := 1084) (by decide +kernel)⟩
theorem lw_p40 : lw_okq (⟨"GrammarLinesModel", "ends", "(II)V"⟩, 56) := ⟨⟨by decide +kernel, by decide +kernel⟩, List.mem_of_getElem? (i := 784) (by decide +kernel), List.mem_of_getElem? (i := 1087) (by decide +kernel), List.mem_of_getElem? (i := 1088) (by decide +kernel)⟩
theorem lw_p41 : lw_okq (⟨"GrammarLinesModel", "fails", "(II)V"⟩, 56) := ⟨⟨by decide +kernel, by decide +kernel⟩, List.mem_of_getElem? (i := 784) (by decide +kernel), List.mem_of_getElem? (i := 1091) (by decide +kernel), List.mem_of_getElem? (i := 1092) (by decide +kernel)⟩
theorem lw_p42 : lw_okq (⟨"GrammarLinesModel", "isFilled", "(II)Z"⟩, 56) := ⟨⟨by decide +kernel, by decide +kernel⟩, List.mem_of_getElem? (i := 784) (by decide +kernel), List.mem_of_getElem? (i := 1095) (by decide +kernel), List.mem_of_getElem? (i := 1096) (by decide +kernel)⟩
theorem lw_p43 : lw_okq (⟨"GrammarLinesModel", "goesWith", "(II)Z"⟩, 56) := ⟨⟨by decide +kernel, by decide +kernel⟩, List.mem_of_getElem? (i := 784) (by decide +kernel), List.mem_of_getElem? (i := 1099) (by decide +kernel), List.mem_of_getElem? (i := 1100) (by decide +kernel)⟩
theorem lw_p44 : lw_okq (⟨"GrammarLinesModel", "isWorn", "(I)Z"⟩, 56) := ⟨⟨by decide +kernel, by decide +kernel⟩, List.mem_of_getElem? (i := 784) (by decide +kernel), List.mem_of_getElem? (i := 1103) (by decide +kernel), List.mem_of_getElem? (i := 1104) (by decide +kernel)⟩
theorem lw_p45 : lw_okq (⟨"GrammarLinesModel", "slot", "(II)V"⟩, 56) := ⟨⟨by decide +kernel, by decide +kernel⟩, List.mem_of_getElem? (i := 784) (by decide +kernel), List.mem_of_getElem? (i := 1107) (by decide +kernel), List.mem_of_getElem? (i := 1108) (by decide +kernel)⟩
theorem lw_p46 : lw_okq (⟨"GrammarLinesModel", "next", "(II)I"⟩, 56) := ⟨⟨by decide +kernel, by decide +kernel⟩, List.mem_of_getElem? (i := 784) (by decide +kernel), List.mem_of_getElem? (i := 1111) (by decide +kernel), List.mem_of_getElem? (i := 1112) (by decide +kernel)⟩
theorem lw_p47 : lw_okq (⟨"GrammarLinesModel", "takes", "(III)I"⟩, 56) := ⟨⟨by decide +kernel, by decide +kernel⟩, List.mem_of_getElem? (i := 784) (by decide +kernel), List.mem_of_getElem? (i := 1115) (by decide +kernel), List.mem_of_getElem? (i := 1116) (by decide +kernel)⟩
def lw_privs_3 : List (MethodName × Nat) := [(⟨"GrammarLinesModel", "manyOf", "(J)I"⟩, 56), (⟨"GrammarLinesModel", "thingOf", "(JI)I"⟩, 56), (⟨"GrammarLinesModel", "isCreature", "(I)Z"⟩, 56), (⟨"GrammarLinesModel", "stands", "(II)Z"⟩, 56), (⟨"GrammarLinesModel", "off", "(I)V"⟩, 56), (⟨"GrammarLinesModel", "begins", "()V"⟩, 56), (⟨"GrammarLinesModel", "isTried", "()I"⟩, 56), (⟨"GrammarLinesModel", "tries", "(I)V"⟩, 56), (⟨"GrammarLinesModel", "ends", "(II)V"⟩, 56), (⟨"GrammarLinesModel", "fails", "(II)V"⟩, 56), (⟨"GrammarLinesModel", "isFilled", "(II)Z"⟩, 56), (⟨"GrammarLinesModel", "goesWith", "(II)Z"⟩, 56), (⟨"GrammarLinesModel", "isWorn", "(I)Z"⟩, 56), (⟨"GrammarLinesModel", "slot", "(II)V"⟩, 56), (⟨"GrammarLinesModel", "next", "(II)I"⟩, 56), (⟨"GrammarLinesModel", "takes", "(III)I"⟩, 56)]
theorem lw_r3 : ∀ q ∈ lw_privs_3, lw_okq q := List.forall_mem_cons.mpr ⟨lw_p32, List.forall_mem_cons.mpr ⟨lw_p33, List.forall_mem_cons.mpr ⟨lw_p34, List.forall_mem_cons.mpr ⟨lw_p35, List.forall_mem_cons.mpr ⟨lw_p36, List.forall_mem_cons.mpr ⟨lw_p37, List.forall_mem_cons.mpr ⟨lw_p38, List.forall_mem_cons.mpr ⟨lw_p39, List.forall_mem_cons.mpr ⟨lw_p40, List.forall_mem_cons.mpr ⟨lw_p41, List.forall_mem_cons.mpr ⟨lw_p42, List.forall_mem_cons.mpr ⟨lw_p43, List.forall_mem_cons.mpr ⟨lw_p44, List.forall_mem_cons.mpr ⟨lw_p45, List.forall_mem_cons.mpr ⟨lw_p46, List.forall_mem_cons.mpr ⟨lw_p47, fun _ h => absurd h List.not_mem_nil⟩⟩⟩⟩⟩⟩⟩⟩⟩⟩⟩⟩⟩⟩⟩⟩
theorem lw_p48 : lw_okq (⟨"GrammarLinesModel", "isOneOf", "(III)Z"⟩, 56) := ⟨⟨by decide +kernel, by decide +kernel⟩, List.mem_of_getElem? (i := 784) (by decide +kernel), List.mem_of_getElem? (i := 1119) (by decide +kernel), List.mem_of_getElem? (i := 1120) (by decide +kernel)⟩
theorem lw_p49 : lw_okq (⟨"GrammarLinesModel", "takesOne", "(II)I"⟩, 56) := ⟨⟨by decide +kernel, by decide +kernel⟩, List.mem_of_getElem? (i := 784) (by decide +kernel), List.mem_of_getElem? (i := 1123) (by decide +kernel), List.mem_of_getElem? (i := 1124) (by decide +kernel)⟩
theorem lw_p50 : lw_okq (⟨"GrammarLinesModel", "joins", "(I)Z"⟩, 56) := ⟨⟨by decide +kernel, by decide +kernel⟩, List.mem_of_getElem? (i := 784) (by decide +kernel), List.mem_of_getElem? (i := 1127) (by decide +kernel), List.mem_of_getElem? (i := 1128) (by decide +kernel)⟩
theorem lw_p51 : lw_okq (⟨"GrammarLinesModel", "takesSeveral", "(II)I"⟩, 56) := ⟨⟨by decide +kernel, by decide +kernel⟩, List.mem_of_getElem? (i := 784) (by decide +kernel), List.mem_of_getElem? (i := 1131) (by decide +kernel), List.mem_of_getElem? (i := 1132) (by decide +kernel)⟩
theorem lw_p52 : lw_okq (⟨"GrammarLinesModel", "lacksOne", "(I)I"⟩, 56) := ⟨⟨by decide +kernel, by decide +kernel⟩, List.mem_of_getElem? (i := 784) (by decide +kernel), List.mem_of_getElem? (i := 1136) (by decide +kernel), List.mem_of_getElem? (i := 1137) (by decide +kernel)⟩
theorem lw_p53 : lw_okq (⟨"GrammarLinesModel", "takesTopic", "(III)I"⟩, 56) := ⟨⟨by decide +kernel, by decide +kernel⟩, List.mem_of_getElem? (i := 784) (by decide +kernel), List.mem_of_getElem? (i := 1140) (by decide +kernel), List.mem_of_getElem? (i := 1141) (by decide +kernel)⟩
theorem lw_p54 : lw_okq (⟨"GrammarLinesModel", "others", "()V"⟩, 56) := ⟨⟨by decide +kernel, by decide +kernel⟩, List.mem_of_getElem? (i := 784) (by decide +kernel), List.mem_of_getElem? (i := 1144) (by decide +kernel), List.mem_of_getElem? (i := 1145) (by decide +kernel)⟩
theorem lw_p55 : lw_okq (⟨"GrammarLinesModel", "without", "(I)I"⟩, 56) := ⟨⟨by decide +kernel, by decide +kernel⟩, List.mem_of_getElem? (i := 784) (by decide +kernel), List.mem_of_getElem? (i := 1148) (by decide +kernel), List.mem_of_getElem? (i := 1149) (by decide +kernel)⟩
theorem lw_p56 : lw_okq (⟨"GrammarLinesModel", "comesIn", "(II)V"⟩, 56) := ⟨⟨by decide +kernel, by decide +kernel⟩, List.mem_of_getElem? (i := 784) (by decide +kernel), List.mem_of_getElem? (i := 1157) (by decide +kernel), List.mem_of_getElem? (i := 1158) (by decide +kernel)⟩
def lw_privs_4 : List (MethodName × Nat) := [(⟨"GrammarLinesModel", "isOneOf", "(III)Z"⟩, 56), (⟨"GrammarLinesModel", "takesOne", "(II)I"⟩, 56), (⟨"GrammarLinesModel", "joins", "(I)Z"⟩, 56), (⟨"GrammarLinesModel", "takesSeveral", "(II)I"⟩, 56), (⟨"GrammarLinesModel", "lacksOne", "(I)I"⟩, 56), (⟨"GrammarLinesModel", "takesTopic", "(III)I"⟩, 56), (⟨"GrammarLinesModel", "others", "()V"⟩, 56), (⟨"GrammarLinesModel", "without", "(I)I"⟩, 56), (⟨"GrammarLinesModel", "comesIn", "(II)V"⟩, 56)]
theorem lw_r4 : ∀ q ∈ lw_privs_4, lw_okq q := List.forall_mem_cons.mpr ⟨lw_p48, List.forall_mem_cons.mpr ⟨lw_p49, List.forall_mem_cons.mpr ⟨lw_p50, List.forall_mem_cons.mpr ⟨lw_p51, List.forall_mem_cons.mpr ⟨lw_p52, List.forall_mem_cons.mpr ⟨lw_p53, List.forall_mem_cons.mpr ⟨lw_p54, List.forall_mem_cons.mpr ⟨lw_p55, List.forall_mem_cons.mpr ⟨lw_p56, fun _ h => absurd h List.not_mem_nil⟩⟩⟩⟩⟩⟩⟩⟩⟩
def lw_privs : List (MethodName × Nat) := lw_privs_1 ++ (lw_privs_2 ++ (lw_privs_3 ++ (lw_privs_4)))
def lw_tbl : List Cond := k2_sels lw_privs ++ tables_1
theorem lw_privs_ok : ∀ q ∈ lw_privs, lw_okq q := by
  show ∀ q ∈ lw_privs_1 ++ (lw_privs_2 ++ (lw_privs_3 ++ (lw_privs_4))), lw_okq q
  exact List.forall_mem_append.mpr ⟨lw_r1, List.forall_mem_append.mpr ⟨lw_r2, List.forall_mem_append.mpr ⟨lw_r3, lw_r4⟩⟩⟩
-- ===== end of PART A; then your names; then what follows =====
end
section
def R_Row : String := "GrammarLines$Row"
def F_Row : u_T := fun k => match k with
  | 0 => ("GrammarLines$Row", "items", "[I", true)
  | _ => ("GrammarLines$Row", "size", "I", false)
def t_Row : Nat → FieldType := fun k => match k with
  | 0 => .array .int
  | _ => .int
theorem n_Row : ∀ a, a < 2 → ∀ b, b < 2 → a ≠ b → (F_Row a).2.1 ≠ (F_Row b).2.1 := by decide +kernel
theorem t_Row_ok : ∀ k, k < 2 → parseFieldDescriptor (F_Row k).2.2.1 = some (t_Row k) := by decide +kernel
def R_Slot : String := "GrammarLines$Slot"
def F_Slot : u_T := fun k => match k with
  | 0 => ("GrammarLines$Slot", "items", "LGrammarLines$Row;", true)
  | 1 => ("GrammarLines$Slot", "kind", "I", false)
  | 2 => ("GrammarLines$Slot", "place", "I", false)
  | _ => ("GrammarLines$Slot", "things", "J", false)
def t_Slot : Nat → FieldType := fun k => match k with
  | 0 => .object "GrammarLines$Row"
  | 1 => .int
  | 2 => .int
  | _ => .long
theorem n_Slot : ∀ a, a < 4 → ∀ b, b < 4 → a ≠ b → (F_Slot a).2.1 ≠ (F_Slot b).2.1 := by decide +kernel
theorem t_Slot_ok : ∀ k, k < 4 → parseFieldDescriptor (F_Slot k).2.2.1 = some (t_Slot k) := by decide +kernel
def R_Phrase : String := "GrammarLines$Phrase"
def F_Phrase : u_T := fun k => match k with
  | 0 => ("GrammarLines$Phrase", "things", "LGrammarLines$Things;", true)
  | 1 => ("GrammarLines$Phrase", "its", "J", false)
  | _ => ("GrammarLines$Phrase", "end", "I", false)
def t_Phrase : Nat → FieldType := fun k => match k with
  | 0 => .object "GrammarLines$Things"
  | 1 => .long
  | _ => .int
theorem n_Phrase : ∀ a, a < 3 → ∀ b, b < 3 → a ≠ b → (F_Phrase a).2.1 ≠ (F_Phrase b).2.1 := by decide +kernel
theorem t_Phrase_ok : ∀ k, k < 3 → parseFieldDescriptor (F_Phrase k).2.2.1 = some (t_Phrase k) := by decide +kernel
def R_Things : String := "GrammarLines$Things"
def F_Things : u_T := fun k => match k with
  | 0 => ("GrammarLines$Things", "flagsOf", "[I", true)
  | 1 => ("GrammarLines$Things", "nameCounts", "[I", true)
  | 2 => ("GrammarLines$Things", "names", "[I", true)
  | 3 => ("GrammarLines$Things", "count", "I", false)
  | 4 => ("GrammarLines$Things", "inScope", "J", false)
  | 5 => ("GrammarLines$Things", "held", "J", false)
  | 6 => ("GrammarLines$Things", "worn", "J", false)
  | _ => ("GrammarLines$Things", "creatures", "J", false)
def t_Things : Nat → FieldType := fun k => match k with
  | 0 => .array .int
  | 1 => .array .int
  | 2 => .array .int
  | 3 => .int
  | 4 => .long
  | 5 => .long
  | 6 => .long
  | _ => .long
theorem n_Things : ∀ a, a < 8 → ∀ b, b < 8 → a ≠ b → (F_Things a).2.1 ≠ (F_Things b).2.1 := by decide +kernel
theorem t_Things_ok : ∀ k, k < 8 → parseFieldDescriptor (F_Things k).2.2.1 = some (t_Things k) := by decide +kernel
def R_Verbs : String := "GrammarLines$Verbs"
def F_Verbs : u_T := fun k => match k with
  | 0 => ("GrammarLines$Verbs", "words", "LGrammarLines$Row;", true)
  | 1 => ("GrammarLines$Verbs", "owners", "LGrammarLines$Row;", true)
  | _ => ("GrammarLines$Verbs", "count", "I", false)
def t_Verbs : Nat → FieldType := fun k => match k with
  | 0 => .object "GrammarLines$Row"
  | 1 => .object "GrammarLines$Row"
  | _ => .int
theorem n_Verbs : ∀ a, a < 3 → ∀ b, b < 3 → a ≠ b → (F_Verbs a).2.1 ≠ (F_Verbs b).2.1 := by decide +kernel
theorem t_Verbs_ok : ∀ k, k < 3 → parseFieldDescriptor (F_Verbs k).2.2.1 = some (t_Verbs k) := by decide +kernel
def R_Lines : String := "GrammarLines$Lines"
def F_Lines : u_T := fun k => match k with
  | 0 => ("GrammarLines$Lines", "verbs", "[I", true)
  | 1 => ("GrammarLines$Lines", "actions", "[I", true)
  | 2 => ("GrammarLines$Lines", "reversals", "[Z", true)
  | 3 => ("GrammarLines$Lines", "kindCounts", "[I", true)
  | 4 => ("GrammarLines$Lines", "kinds", "[I", true)
  | 5 => ("GrammarLines$Lines", "ofs", "[I", true)
  | _ => ("GrammarLines$Lines", "count", "I", false)
def t_Lines : Nat → FieldType := fun k => match k with
  | 0 => .array .int
  | 1 => .array .int
  | 2 => .array .boolean
  | 3 => .array .int
  | 4 => .array .int
  | 5 => .array .int
  | _ => .int
theorem n_Lines : ∀ a, a < 7 → ∀ b, b < 7 → a ≠ b → (F_Lines a).2.1 ≠ (F_Lines b).2.1 := by decide +kernel
theorem t_Lines_ok : ∀ k, k < 7 → parseFieldDescriptor (F_Lines k).2.2.1 = some (t_Lines k) := by decide +kernel
def R_Values : String := "GrammarLines$Values"
def F_Values : u_T := fun k => match k with
  | 0 => ("GrammarLines$Values", "customs", "LGrammarLines$Row;", true)
  | 1 => ("GrammarLines$Values", "words", "LGrammarLines$Row;", true)
  | _ => ("GrammarLines$Values", "values", "LGrammarLines$Row;", true)
def t_Values : Nat → FieldType := fun k => match k with
  | 0 => .object "GrammarLines$Row"
  | 1 => .object "GrammarLines$Row"
  | _ => .object "GrammarLines$Row"
theorem n_Values : ∀ a, a < 3 → ∀ b, b < 3 → a ≠ b → (F_Values a).2.1 ≠ (F_Values b).2.1 := by decide +kernel
theorem t_Values_ok : ∀ k, k < 3 → parseFieldDescriptor (F_Values k).2.2.1 = some (t_Values k) := by decide +kernel
def R_Trial : String := "GrammarLines$Trial"
def F_Trial : u_T := fun k => match k with
  | 0 => ("GrammarLines$Trial", "things", "LGrammarLines$Things;", true)
  | 1 => ("GrammarLines$Trial", "lines", "LGrammarLines$Lines;", true)
  | 2 => ("GrammarLines$Trial", "values", "LGrammarLines$Values;", true)
  | 3 => ("GrammarLines$Trial", "words", "LGrammarLines$Row;", true)
  | 4 => ("GrammarLines$Trial", "phrase", "LGrammarLines$Phrase;", true)
  | 5 => ("GrammarLines$Trial", "first", "LGrammarLines$Slot;", true)
  | 6 => ("GrammarLines$Trial", "second", "LGrammarLines$Slot;", true)
  | 7 => ("GrammarLines$Trial", "filled", "LGrammarLines$Row;", true)
  | 8 => ("GrammarLines$Trial", "question", "LGrammarLines$Row;", true)
  | 9 => ("GrammarLines$Trial", "line", "I", false)
  | 10 => ("GrammarLines$Trial", "cursor", "I", false)
  | 11 => ("GrammarLines$Trial", "error", "I", false)
  | _ => ("GrammarLines$Trial", "place", "I", false)
def t_Trial : Nat → FieldType := fun k => match k with
  | 0 => .object "GrammarLines$Things"
  | 1 => .object "GrammarLines$Lines"
  | 2 => .object "GrammarLines$Values"
  | 3 => .object "GrammarLines$Row"
  | 4 => .object "GrammarLines$Phrase"
  | 5 => .object "GrammarLines$Slot"
  | 6 => .object "GrammarLines$Slot"
  | 7 => .object "GrammarLines$Row"
  | 8 => .object "GrammarLines$Row"
  | 9 => .int
  | 10 => .int
  | 11 => .int
  | _ => .int
theorem n_Trial : ∀ a, a < 13 → ∀ b, b < 13 → a ≠ b → (F_Trial a).2.1 ≠ (F_Trial b).2.1 := by decide +kernel
theorem t_Trial_ok : ∀ k, k < 13 → parseFieldDescriptor (F_Trial k).2.2.1 = some (t_Trial k) := by decide +kernel
def R_Report : String := "GrammarLines$Report"
def F_Report : u_T := fun k => match k with
  | 0 => ("GrammarLines$Report", "triedLines", "LGrammarLines$Row;", true)
  | 1 => ("GrammarLines$Report", "triedErrors", "LGrammarLines$Row;", true)
  | 2 => ("GrammarLines$Report", "triedPlaces", "LGrammarLines$Row;", true)
  | 3 => ("GrammarLines$Report", "question", "LGrammarLines$Row;", true)
  | 4 => ("GrammarLines$Report", "action", "I", false)
  | 5 => ("GrammarLines$Report", "error", "I", false)
  | 6 => ("GrammarLines$Report", "place", "I", false)
  | 7 => ("GrammarLines$Report", "line", "I", false)
  | _ => ("GrammarLines$Report", "phraseEnd", "I", false)
def t_Report : Nat → FieldType := fun k => match k with
  | 0 => .object "GrammarLines$Row"
  | 1 => .object "GrammarLines$Row"
  | 2 => .object "GrammarLines$Row"
  | 3 => .object "GrammarLines$Row"
  | 4 => .int
  | 5 => .int
  | 6 => .int
  | 7 => .int
  | _ => .int
theorem n_Report : ∀ a, a < 9 → ∀ b, b < 9 → a ≠ b → (F_Report a).2.1 ≠ (F_Report b).2.1 := by decide +kernel
theorem t_Report_ok : ∀ k, k < 9 → parseFieldDescriptor (F_Report k).2.2.1 = some (t_Report k) := by decide +kernel
def R_G : String := "GrammarLines"
def F_G : u_T := fun k => match k with
  | 0 => ("GrammarLines", "things", "LGrammarLines$Things;", true)
  | 1 => ("GrammarLines", "verbs", "LGrammarLines$Verbs;", true)
  | 2 => ("GrammarLines", "lines", "LGrammarLines$Lines;", true)
  | 3 => ("GrammarLines", "values", "LGrammarLines$Values;", true)
  | 4 => ("GrammarLines", "input", "LGrammarLines$Row;", true)
  | 5 => ("GrammarLines", "command", "LGrammarLines$Row;", true)
  | 6 => ("GrammarLines", "taken", "LGrammarLines$Row;", true)
  | 7 => ("GrammarLines", "done", "LGrammarLines$Row;", true)
  | 8 => ("GrammarLines", "addressee", "LGrammarLines$Phrase;", true)
  | 9 => ("GrammarLines", "trial", "LGrammarLines$Trial;", true)
  | 10 => ("GrammarLines", "report", "LGrammarLines$Report;", true)
  | 11 => ("GrammarLines", "recipient", "I", false)
  | _ => ("GrammarLines", "doneTo", "I", false)
def t_G : Nat → FieldType := fun k => match k with
  | 0 => .object "GrammarLines$Things"
  | 1 => .object "GrammarLines$Verbs"
  | 2 => .object "GrammarLines$Lines"
  | 3 => .object "GrammarLines$Values"
  | 4 => .object "GrammarLines$Row"
  | 5 => .object "GrammarLines$Row"
  | 6 => .object "GrammarLines$Row"
  | 7 => .object "GrammarLines$Row"
  | 8 => .object "GrammarLines$Phrase"
  | 9 => .object "GrammarLines$Trial"
  | 10 => .object "GrammarLines$Report"
  | 11 => .int
  | _ => .int
theorem n_G : ∀ a, a < 13 → ∀ b, b < 13 → a ≠ b → (F_G a).2.1 ≠ (F_G b).2.1 := by decide +kernel
theorem t_G_ok : ∀ k, k < 13 → parseFieldDescriptor (F_G k).2.2.1 = some (t_G k) := by decide +kernel
def R_M : String := "GrammarLinesModel"
def F_M : u_T := fun k => match k with
  | 0 => ("GrammarLinesModel", "verbs", "I", false)
  | 1 => ("GrammarLinesModel", "verbWords", "I", false)
  | 2 => ("GrammarLinesModel", "verbWord", "[I", true)
  | 3 => ("GrammarLinesModel", "verbOf", "[I", true)
  | 4 => ("GrammarLinesModel", "lines", "I", false)
  | 5 => ("GrammarLinesModel", "lineVerb", "[I", true)
  | 6 => ("GrammarLinesModel", "lineAction", "[I", true)
  | 7 => ("GrammarLinesModel", "isReversed", "[Z", true)
  | 8 => ("GrammarLinesModel", "tokenMany", "[I", true)
  | 9 => ("GrammarLinesModel", "tokenKind", "[I", true)
  | 10 => ("GrammarLinesModel", "tokenOf", "[I", true)
  | 11 => ("GrammarLinesModel", "things", "I", false)
  | 12 => ("GrammarLinesModel", "flagOf", "[I", true)
  | 13 => ("GrammarLinesModel", "nameMany", "[I", true)
  | 14 => ("GrammarLinesModel", "nameOf", "[I", true)
  | 15 => ("GrammarLinesModel", "pairs", "I", false)
  | 16 => ("GrammarLinesModel", "pairNumber", "[I", true)
  | 17 => ("GrammarLinesModel", "pairWord", "[I", true)
  | 18 => ("GrammarLinesModel", "pairValue", "[I", true)
  | 19 => ("GrammarLinesModel", "inputMany", "I", false)
  | 20 => ("GrammarLinesModel", "input", "[I", true)
  | 21 => ("GrammarLinesModel", "row", "[I", true)
  | 22 => ("GrammarLinesModel", "rowMany", "I", false)
  | 23 => ("GrammarLinesModel", "phraseThings", "J", false)
  | 24 => ("GrammarLinesModel", "error", "I", false)
  | 25 => ("GrammarLinesModel", "place", "I", false)
  | 26 => ("GrammarLinesModel", "which", "J", false)
  | 27 => ("GrammarLinesModel", "phraseEnd", "I", false)
  | 28 => ("GrammarLinesModel", "lacks", "I", false)
  | 29 => ("GrammarLinesModel", "toldMany", "I", false)
  | 30 => ("GrammarLinesModel", "toldWords", "[I", true)
  | 31 => ("GrammarLinesModel", "fills", "I", false)
  | 32 => ("GrammarLinesModel", "filledOnes", "[I", true)
  | 33 => ("GrammarLinesModel", "slotMany", "I", false)
  | 34 => ("GrammarLinesModel", "slotKind", "[I", true)
  | 35 => ("GrammarLinesModel", "slotAt", "[I", true)
  | 36 => ("GrammarLinesModel", "slotThings", "[J", true)
  | 37 => ("GrammarLinesModel", "slotFrom", "[I", true)
  | 38 => ("GrammarLinesModel", "slotTo", "[I", true)
  | 39 => ("GrammarLinesModel", "slotNumber", "[I", true)
  | 40 => ("GrammarLinesModel", "commandMany", "I", false)
  | 41 => ("GrammarLinesModel", "command", "[I", true)
  | 42 => ("GrammarLinesModel", "toWhom", "I", false)
  | 43 => ("GrammarLinesModel", "tried", "I", false)
  | 44 => ("GrammarLinesModel", "triedLine", "[I", true)
  | 45 => ("GrammarLinesModel", "triedError", "[I", true)
  | 46 => ("GrammarLinesModel", "triedPlace", "[I", true)
  | 47 => ("GrammarLinesModel", "isAnswered", "Z", false)
  | 48 => ("GrammarLinesModel", "lastError", "I", false)
  | 49 => ("GrammarLinesModel", "errorPlace", "I", false)
  | 50 => ("GrammarLinesModel", "errorLine", "I", false)
  | 51 => ("GrammarLinesModel", "askedKind", "I", false)
  | 52 => ("GrammarLinesModel", "hasAction", "Z", false)
  | 53 => ("GrammarLinesModel", "againMany", "I", false)
  | 54 => ("GrammarLinesModel", "again", "[I", true)
  | _ => ("GrammarLinesModel", "againTo", "I", false)
def t_M : Nat → FieldType := fun k => match k with
  | 0 => .int
  | 1 => .int
  | 2 => .array .int
  | 3 => .array .int
  | 4 => .int
  | 5 => .array .int
  | 6 => .array .int
  | 7 => .array .boolean
  | 8 => .array .int
  | 9 => .array .int
  | 10 => .array .int
  | 11 => .int
  | 12 => .array .int
  | 13 => .array .int
  | 14 => .array .int
  | 15 => .int
  | 16 => .array .int
  | 17 => .array .int
  | 18 => .array .int
  | 19 => .int
  | 20 => .array .int
  | 21 => .array .int
  | 22 => .int
  | 23 => .long
  | 24 => .int
  | 25 => .int
  | 26 => .long
  | 27 => .int
  | 28 => .int
  | 29 => .int
  | 30 => .array .int
  | 31 => .int
  | 32 => .array .int
  | 33 => .int
  | 34 => .array .int
  | 35 => .array .int
  | 36 => .array (.long)
  | 37 => .array .int
  | 38 => .array .int
  | 39 => .array .int
  | 40 => .int
  | 41 => .array .int
  | 42 => .int
  | 43 => .int
  | 44 => .array .int
  | 45 => .array .int
  | 46 => .array .int
  | 47 => .boolean
  | 48 => .int
  | 49 => .int
  | 50 => .int
  | 51 => .int
  | 52 => .boolean
  | 53 => .int
  | 54 => .array .int
  | _ => .int
theorem n_M : ∀ a, a < 56 → ∀ b, b < 56 → a ≠ b → (F_M a).2.1 ≠ (F_M b).2.1 := by decide +kernel
theorem t_M_ok : ∀ k, k < 56 → parseFieldDescriptor (F_M k).2.2.1 = some (t_M k) := by decide +kernel
def R_JLong : String := "java/lang/Long"
def R_JMath : String := "java/lang/Math"
abbrev classes : List vw_C := [(R_Row, F_Row, 2), (R_Slot, F_Slot, 4), (R_Phrase, F_Phrase, 3), (R_Things, F_Things, 8), (R_Verbs, F_Verbs, 3), (R_Lines, F_Lines, 7), (R_Values, F_Values, 3), (R_Trial, F_Trial, 13), (R_Report, F_Report, 9), (R_G, F_G, 13), (R_M, F_M, 56)]
abbrev b_G_isPlainWord : ByteArray := prog_1_method_20_code
def y_G_isPlainWord : MethodName := ⟨R_G, "isPlainWord", "(I)Z"⟩
abbrev b_Row_size : ByteArray := prog_5_method_2_code
def y_Row_size : MethodName := ⟨R_Row, "size", "()I"⟩
abbrev b_Row_at : ByteArray := prog_5_method_3_code
def y_Row_at : MethodName := ⟨R_Row, "at", "(I)I"⟩
abbrev b_Verbs_find : ByteArray := prog_10_method_8_code
def y_Verbs_find : MethodName := ⟨R_Verbs, "find", "(I)I"⟩
abbrev b_G_mayBeVerbWord : ByteArray := prog_1_method_27_code
def y_G_mayBeVerbWord : MethodName := ⟨R_G, "mayBeVerbWord", "(I)Z"⟩
abbrev b_Verbs_isFull : ByteArray := prog_10_method_4_code
def y_Verbs_isFull : MethodName := ⟨R_Verbs, "isFull", "()Z"⟩
abbrev b_Verbs_hasAllWords : ByteArray := prog_10_method_5_code
def y_Verbs_hasAllWords : MethodName := ⟨R_Verbs, "hasAllWords", "()Z"⟩
abbrev b_Row_add : ByteArray := prog_5_method_4_code
def y_Row_add : MethodName := ⟨R_Row, "add", "(I)V"⟩
abbrev b_Verbs_addWord : ByteArray := prog_10_method_7_code
def y_Verbs_addWord : MethodName := ⟨R_Verbs, "addWord", "(II)I"⟩
abbrev b_Verbs_add : ByteArray := prog_10_method_6_code
def y_Verbs_add : MethodName := ⟨R_Verbs, "add", "(I)I"⟩
abbrev b_G_verb : ByteArray := prog_1_method_2_code
def y_G_verb : MethodName := ⟨R_G, "verb", "(I)I"⟩
abbrev b_Verbs_has : ByteArray := prog_10_method_3_code
def y_Verbs_has : MethodName := ⟨R_Verbs, "has", "(I)Z"⟩
abbrev b_G_like : ByteArray := prog_1_method_3_code
def y_G_like : MethodName := ⟨R_G, "like", "(II)I"⟩
abbrev b_Lines_isFull : ByteArray := prog_2_method_4_code
def y_Lines_isFull : MethodName := ⟨R_Lines, "isFull", "()Z"⟩
abbrev b_Lines_add : ByteArray := prog_2_method_5_code
def y_Lines_add : MethodName := ⟨R_Lines, "add", "(IIZ)I"⟩
abbrev b_G_line : ByteArray := prog_1_method_4_code
def y_G_line : MethodName := ⟨R_G, "line", "(IIZ)I"⟩
abbrev b_Lines_has : ByteArray := prog_2_method_3_code
def y_Lines_has : MethodName := ⟨R_Lines, "has", "(I)Z"⟩
abbrev b_G_mayBeToken : ByteArray := prog_1_method_26_code
def y_G_mayBeToken : MethodName := ⟨R_G, "mayBeToken", "(II)Z"⟩
abbrev b_Lines_kindsOf : ByteArray := prog_2_method_9_code
def y_Lines_kindsOf : MethodName := ⟨R_Lines, "kindsOf", "(I)I"⟩
abbrev b_Lines_kindAt : ByteArray := prog_2_method_10_code
def y_Lines_kindAt : MethodName := ⟨R_Lines, "kindAt", "(II)I"⟩
abbrev b_G_isSlot : ByteArray := prog_1_method_23_code
def y_G_isSlot : MethodName := ⟨R_G, "isSlot", "(I)Z"⟩
abbrev b_Lines_slotsOf : ByteArray := prog_2_method_13_code
def y_Lines_slotsOf : MethodName := ⟨R_Lines, "slotsOf", "(I)I"⟩
abbrev b_Lines_allows : ByteArray := prog_2_method_12_code
def y_Lines_allows : MethodName := ⟨R_Lines, "allows", "(II)Z"⟩
abbrev b_Lines_addKind : ByteArray := prog_2_method_14_code
def y_Lines_addKind : MethodName := ⟨R_Lines, "addKind", "(III)I"⟩
abbrev b_G_token : ByteArray := prog_1_method_5_code
def y_G_token : MethodName := ⟨R_G, "token", "(III)I"⟩
abbrev b_G_mayBeFlags : ByteArray := prog_1_method_25_code
def y_G_mayBeFlags : MethodName := ⟨R_G, "mayBeFlags", "(I)Z"⟩
abbrev b_Things_isFull : ByteArray := prog_7_method_4_code
def y_Things_isFull : MethodName := ⟨R_Things, "isFull", "()Z"⟩
abbrev b_Things_has : ByteArray := prog_7_method_3_code
def y_Things_has : MethodName := ⟨R_Things, "has", "(I)Z"⟩
abbrev b_Things_withAnyOf : ByteArray := prog_7_method_7_code
def y_Things_withAnyOf : MethodName := ⟨R_Things, "withAnyOf", "(I)J"⟩
abbrev b_Things_changeFlags : ByteArray := prog_7_method_6_code
def y_Things_changeFlags : MethodName := ⟨R_Things, "changeFlags", "(II)I"⟩
abbrev b_Things_add : ByteArray := prog_7_method_5_code
def y_Things_add : MethodName := ⟨R_Things, "add", "(I)I"⟩
abbrev b_G_thing : ByteArray := prog_1_method_6_code
def y_G_thing : MethodName := ⟨R_G, "thing", "(I)I"⟩
abbrev b_Things_isNamed : ByteArray := prog_7_method_9_code
def y_Things_isNamed : MethodName := ⟨R_Things, "isNamed", "(II)Z"⟩
abbrev b_Things_namesOf : ByteArray := prog_7_method_8_code
def y_Things_namesOf : MethodName := ⟨R_Things, "namesOf", "(I)I"⟩
abbrev b_Things_addName : ByteArray := prog_7_method_10_code
def y_Things_addName : MethodName := ⟨R_Things, "addName", "(II)I"⟩
abbrev b_G_name : ByteArray := prog_1_method_7_code
def y_G_name : MethodName := ⟨R_G, "name", "(II)I"⟩
abbrev b_G_flags : ByteArray := prog_1_method_8_code
def y_G_flags : MethodName := ⟨R_G, "flags", "(II)I"⟩
abbrev b_Values_indexOf : ByteArray := prog_9_method_3_code
def y_Values_indexOf : MethodName := ⟨R_Values, "indexOf", "(II)I"⟩
abbrev b_Values_find : ByteArray := prog_9_method_4_code
def y_Values_find : MethodName := ⟨R_Values, "find", "(II)I"⟩
abbrev b_Row_put : ByteArray := prog_5_method_5_code
def y_Row_put : MethodName := ⟨R_Row, "put", "(II)V"⟩
abbrev b_Values_count : ByteArray := prog_9_method_2_code
def y_Values_count : MethodName := ⟨R_Values, "count", "()I"⟩
abbrev b_Values_put : ByteArray := prog_9_method_5_code
def y_Values_put : MethodName := ⟨R_Values, "put", "(III)I"⟩
abbrev b_G_custom : ByteArray := prog_1_method_9_code
def y_G_custom : MethodName := ⟨R_G, "custom", "(III)I"⟩
abbrev b_G_isWord : ByteArray := prog_1_method_21_code
def y_G_isWord : MethodName := ⟨R_G, "isWord", "(I)Z"⟩
abbrev b_G_word : ByteArray := prog_1_method_10_code
def y_G_word : MethodName := ⟨R_G, "word", "(I)I"⟩
abbrev b_Row_empty : ByteArray := prog_5_method_8_code
def y_Row_empty : MethodName := ⟨R_Row, "empty", "()V"⟩
abbrev b_G_clear : ByteArray := prog_1_method_11_code
def y_G_clear : MethodName := ⟨R_G, "clear", "()I"⟩
abbrev b_Things_namedOf : ByteArray := prog_7_method_11_code
def y_Things_namedOf : MethodName := ⟨R_Things, "namedOf", "(JI)J"⟩
abbrev b_Phrase_find : ByteArray := prog_3_method_2_code
def y_Phrase_find : MethodName := ⟨R_Phrase, "find", "(LGrammarLines$Row;I)Z"⟩
abbrev b_JLong_bitCount : ByteArray := prog_13_method_50_code
def y_JLong_bitCount : MethodName := ⟨R_JLong, "bitCount", "(J)I"⟩
abbrev b_Row_dropFirst : ByteArray := prog_5_method_7_code
def y_Row_dropFirst : MethodName := ⟨R_Row, "dropFirst", "(I)V"⟩
abbrev b_Things_firstOf : ByteArray := prog_7_method_15_code
def y_Things_firstOf : MethodName := ⟨R_Things, "firstOf", "(J)I"⟩
abbrev b_G_takeOrder : ByteArray := prog_1_method_28_code
def y_G_takeOrder : MethodName := ⟨R_G, "takeOrder", "()I"⟩
abbrev b_G_isJoin : ByteArray := prog_1_method_22_code
def y_G_isJoin : MethodName := ⟨R_G, "isJoin", "(I)Z"⟩
abbrev b_G_endsCommand : ByteArray := prog_1_method_30_code
def y_G_endsCommand : MethodName := ⟨R_G, "endsCommand", "(I)Z"⟩
abbrev b_G_takeCommand : ByteArray := prog_1_method_29_code
def y_G_takeCommand : MethodName := ⟨R_G, "takeCommand", "()V"⟩
abbrev b_Row_become : ByteArray := prog_5_method_9_code
def y_Row_become : MethodName := ⟨R_Row, "become", "(LGrammarLines$Row;)V"⟩
abbrev b_G_chooseCommand : ByteArray := prog_1_method_31_code
def y_G_chooseCommand : MethodName := ⟨R_G, "chooseCommand", "(I)I"⟩
abbrev b_Report_begin : ByteArray := prog_4_method_2_code
def y_Report_begin : MethodName := ⟨R_Report, "begin", "()V"⟩
abbrev b_Report_fail : ByteArray := prog_4_method_4_code
def y_Report_fail : MethodName := ⟨R_Report, "fail", "(III)V"⟩
abbrev b_Lines_count : ByteArray := prog_2_method_2_code
def y_Lines_count : MethodName := ⟨R_Lines, "count", "()I"⟩
abbrev b_Report_isAsked : ByteArray := prog_4_method_3_code
def y_Report_isAsked : MethodName := ⟨R_Report, "isAsked", "()Z"⟩
abbrev b_Lines_verbOf : ByteArray := prog_2_method_6_code
def y_Lines_verbOf : MethodName := ⟨R_Lines, "verbOf", "(I)I"⟩
abbrev b_Slot_empty : ByteArray := prog_6_method_2_code
def y_Slot_empty : MethodName := ⟨R_Slot, "empty", "()V"⟩
abbrev b_Trial_begin : ByteArray := prog_8_method_4_code
def y_Trial_begin : MethodName := ⟨R_Trial, "begin", "(I)V"⟩
abbrev b_G_isOfOneThing : ByteArray := prog_1_method_24_code
def y_G_isOfOneThing : MethodName := ⟨R_G, "isOfOneThing", "(I)Z"⟩
abbrev b_Trial_fail : ByteArray := prog_8_method_5_code
def y_Trial_fail : MethodName := ⟨R_Trial, "fail", "(II)V"⟩
abbrev b_Trial_takeOut : ByteArray := prog_8_method_18_code
def y_Trial_takeOut : MethodName := ⟨R_Trial, "takeOut", "(LGrammarLines$Slot;LGrammarLines$Slot;)V"⟩
abbrev b_Row_addThings : ByteArray := prog_5_method_10_code
def y_Row_addThings : MethodName := ⟨R_Row, "addThings", "(J)V"⟩
abbrev b_Trial_finish : ByteArray := prog_8_method_17_code
def y_Trial_finish : MethodName := ⟨R_Trial, "finish", "()V"⟩
abbrev b_Trial_openSlot : ByteArray := prog_8_method_6_code
def y_Trial_openSlot : MethodName := ⟨R_Trial, "openSlot", "(I)LGrammarLines$Slot;"⟩
abbrev b_Things_countedFor : ByteArray := prog_7_method_12_code
def y_Things_countedFor : MethodName := ⟨R_Things, "countedFor", "(I)J"⟩
abbrev b_Trial_findOne : ByteArray := prog_8_method_12_code
def y_Trial_findOne : MethodName := ⟨R_Trial, "findOne", "(I)J"⟩
abbrev b_Trial_takeList : ByteArray := prog_8_method_14_code
def y_Trial_takeList : MethodName := ⟨R_Trial, "takeList", "(I)V"⟩
abbrev b_Things_allFor : ByteArray := prog_7_method_14_code
def y_Things_allFor : MethodName := ⟨R_Things, "allFor", "(I)J"⟩
abbrev b_Trial_takeAll : ByteArray := prog_8_method_13_code
def y_Trial_takeAll : MethodName := ⟨R_Trial, "takeAll", "(I)V"⟩
abbrev b_Trial_takeOne : ByteArray := prog_8_method_11_code
def y_Trial_takeOne : MethodName := ⟨R_Trial, "takeOne", "(I)V"⟩
abbrev b_Lines_ofAt : ByteArray := prog_2_method_11_code
def y_Lines_ofAt : MethodName := ⟨R_Lines, "ofAt", "(II)I"⟩
abbrev b_Trial_takeCustom : ByteArray := prog_8_method_10_code
def y_Trial_takeCustom : MethodName := ⟨R_Trial, "takeCustom", "(I)V"⟩
abbrev b_Trial_takeNumber : ByteArray := prog_8_method_9_code
def y_Trial_takeNumber : MethodName := ⟨R_Trial, "takeNumber", "()V"⟩
abbrev b_Lines_takes : ByteArray := prog_2_method_16_code
def y_Lines_takes : MethodName := ⟨R_Lines, "takes", "(III)Z"⟩
abbrev b_Trial_takeTopic : ByteArray := prog_8_method_8_code
def y_Trial_takeTopic : MethodName := ⟨R_Trial, "takeTopic", "(I)V"⟩
abbrev b_Trial_takeWord : ByteArray := prog_8_method_7_code
def y_Trial_takeWord : MethodName := ⟨R_Trial, "takeWord", "(I)V"⟩
abbrev b_Lines_slotFrom : ByteArray := prog_2_method_15_code
def y_Lines_slotFrom : MethodName := ⟨R_Lines, "slotFrom", "(II)I"⟩
abbrev b_Things_fillersFor : ByteArray := prog_7_method_13_code
def y_Things_fillersFor : MethodName := ⟨R_Things, "fillersFor", "(I)J"⟩
abbrev b_Trial_fillFrom : ByteArray := prog_8_method_16_code
def y_Trial_fillFrom : MethodName := ⟨R_Trial, "fillFrom", "(I)Z"⟩
abbrev b_Trial_fillOrAsk : ByteArray := prog_8_method_15_code
def y_Trial_fillOrAsk : MethodName := ⟨R_Trial, "fillOrAsk", "(I)V"⟩
abbrev b_Trial_tryLine : ByteArray := prog_8_method_3_code
def y_Trial_tryLine : MethodName := ⟨R_Trial, "tryLine", "(I)V"⟩
abbrev b_Lines_actionOf : ByteArray := prog_2_method_7_code
def y_Lines_actionOf : MethodName := ⟨R_Lines, "actionOf", "(I)I"⟩
abbrev b_Report_note : ByteArray := prog_4_method_5_code
def y_Report_note : MethodName := ⟨R_Report, "note", "(LGrammarLines$Trial;I)V"⟩
abbrev b_G_tryCommand : ByteArray := prog_1_method_32_code
def y_G_tryCommand : MethodName := ⟨R_G, "tryCommand", "()I"⟩
abbrev b_G_parse : ByteArray := prog_1_method_12_code
def y_G_parse : MethodName := ⟨R_G, "parse", "()I"⟩
abbrev b_Row_insert : ByteArray := prog_5_method_6_code
def y_Row_insert : MethodName := ⟨R_Row, "insert", "(II)V"⟩
abbrev b_G_answer : ByteArray := prog_1_method_13_code
def y_G_answer : MethodName := ⟨R_G, "answer", "(I)I"⟩
abbrev b_Lines_isReversed : ByteArray := prog_2_method_8_code
def y_Lines_isReversed : MethodName := ⟨R_Lines, "isReversed", "(I)Z"⟩
abbrev b_Trial_slotsTaken : ByteArray := prog_8_method_2_code
def y_Trial_slotsTaken : MethodName := ⟨R_Trial, "slotsTaken", "()I"⟩
abbrev b_G_object : ByteArray := prog_1_method_14_code
def y_G_object : MethodName := ⟨R_G, "object", "(II)I"⟩
abbrev b_G_asked : ByteArray := prog_1_method_15_code
def y_G_asked : MethodName := ⟨R_G, "asked", "(I)I"⟩
abbrev b_G_filled : ByteArray := prog_1_method_16_code
def y_G_filled : MethodName := ⟨R_G, "filled", "(I)I"⟩
abbrev b_Verbs_count : ByteArray := prog_10_method_2_code
def y_Verbs_count : MethodName := ⟨R_Verbs, "count", "()I"⟩
abbrev b_Things_count : ByteArray := prog_7_method_2_code
def y_Things_count : MethodName := ⟨R_Things, "count", "()I"⟩
abbrev b_G_told : ByteArray := prog_1_method_17_code
def y_G_told : MethodName := ⟨R_G, "told", "(I)I"⟩
abbrev b_G_trace : ByteArray := prog_1_method_18_code
def y_G_trace : MethodName := ⟨R_G, "trace", "(II)I"⟩
abbrev b_G_said : ByteArray := prog_1_method_19_code
def y_G_said : MethodName := ⟨R_G, "said", "(II)I"⟩
abbrev b_M_within : ByteArray := prog_12_method_3_code
def y_M_within : MethodName := ⟨R_M, "within", "(III)Z"⟩
abbrev b_M_isPlain : ByteArray := prog_12_method_4_code
def y_M_isPlain : MethodName := ⟨R_M, "isPlain", "(I)Z"⟩
abbrev b_M_verbBy : ByteArray := prog_12_method_6_code
def y_M_verbBy : MethodName := ⟨R_M, "verbBy", "(I)I"⟩
abbrev b_M_isOfVerb : ByteArray := prog_12_method_7_code
def y_M_isOfVerb : MethodName := ⟨R_M, "isOfVerb", "(II)V"⟩
abbrev b_M_verb : ByteArray := prog_12_method_8_code
def y_M_verb : MethodName := ⟨R_M, "verb", "(I)I"⟩
abbrev b_M_like : ByteArray := prog_12_method_9_code
def y_M_like : MethodName := ⟨R_M, "like", "(II)I"⟩
abbrev b_M_line : ByteArray := prog_12_method_10_code
def y_M_line : MethodName := ⟨R_M, "line", "(IIZ)I"⟩
abbrev b_M_isSlot : ByteArray := prog_12_method_11_code
def y_M_isSlot : MethodName := ⟨R_M, "isSlot", "(I)Z"⟩
abbrev b_M_token : ByteArray := prog_12_method_12_code
def y_M_token : MethodName := ⟨R_M, "token", "(III)I"⟩
abbrev b_M_thing : ByteArray := prog_12_method_13_code
def y_M_thing : MethodName := ⟨R_M, "thing", "(I)I"⟩
abbrev b_M_hasName : ByteArray := prog_12_method_14_code
def y_M_hasName : MethodName := ⟨R_M, "hasName", "(II)Z"⟩
abbrev b_M_name : ByteArray := prog_12_method_15_code
def y_M_name : MethodName := ⟨R_M, "name", "(II)I"⟩
abbrev b_M_flags : ByteArray := prog_12_method_16_code
def y_M_flags : MethodName := ⟨R_M, "flags", "(II)I"⟩
abbrev b_M_pairOf : ByteArray := prog_12_method_17_code
def y_M_pairOf : MethodName := ⟨R_M, "pairOf", "(II)I"⟩
abbrev b_M_custom : ByteArray := prog_12_method_18_code
def y_M_custom : MethodName := ⟨R_M, "custom", "(III)I"⟩
abbrev b_M_isAny : ByteArray := prog_12_method_5_code
def y_M_isAny : MethodName := ⟨R_M, "isAny", "(I)Z"⟩
abbrev b_M_word : ByteArray := prog_12_method_19_code
def y_M_word : MethodName := ⟨R_M, "word", "(I)I"⟩
abbrev b_M_clear : ByteArray := prog_12_method_20_code
def y_M_clear : MethodName := ⟨R_M, "clear", "()I"⟩
abbrev b_M_take : ByteArray := prog_12_method_28_code
def y_M_take : MethodName := ⟨R_M, "take", "([II)V"⟩
abbrev b_M_isHeld : ByteArray := prog_12_method_21_code
def y_M_isHeld : MethodName := ⟨R_M, "isHeld", "(I)Z"⟩
abbrev b_M_isInScope : ByteArray := prog_12_method_24_code
def y_M_isInScope : MethodName := ⟨R_M, "isInScope", "(I)Z"⟩
abbrev b_M_phrase : ByteArray := prog_12_method_29_code
def y_M_phrase : MethodName := ⟨R_M, "phrase", "(I)I"⟩
abbrev b_M_has : ByteArray := prog_12_method_25_code
def y_M_has : MethodName := ⟨R_M, "has", "(JI)Z"⟩
abbrev b_M_manyOf : ByteArray := prog_12_method_26_code
def y_M_manyOf : MethodName := ⟨R_M, "manyOf", "(J)I"⟩
abbrev b_M_thingOf : ByteArray := prog_12_method_27_code
def y_M_thingOf : MethodName := ⟨R_M, "thingOf", "(JI)I"⟩
abbrev b_M_isCreature : ByteArray := prog_12_method_23_code
def y_M_isCreature : MethodName := ⟨R_M, "isCreature", "(I)Z"⟩
abbrev b_M_stands : ByteArray := prog_12_method_30_code
def y_M_stands : MethodName := ⟨R_M, "stands", "(II)Z"⟩
abbrev b_M_off : ByteArray := prog_12_method_49_code
def y_M_off : MethodName := ⟨R_M, "off", "(I)V"⟩
abbrev b_M_order : ByteArray := prog_12_method_50_code
def y_M_order : MethodName := ⟨R_M, "order", "()V"⟩
abbrev b_M_begins : ByteArray := prog_12_method_48_code
def y_M_begins : MethodName := ⟨R_M, "begins", "()V"⟩
abbrev b_M_fails : ByteArray := prog_12_method_32_code
def y_M_fails : MethodName := ⟨R_M, "fails", "(II)V"⟩
abbrev b_M_others : ByteArray := prog_12_method_45_code
def y_M_others : MethodName := ⟨R_M, "others", "()V"⟩
abbrev b_M_slot : ByteArray := prog_12_method_33_code
def y_M_slot : MethodName := ⟨R_M, "slot", "(II)V"⟩
abbrev b_M_next : ByteArray := prog_12_method_34_code
def y_M_next : MethodName := ⟨R_M, "next", "(II)I"⟩
abbrev b_M_isOneOf : ByteArray := prog_12_method_35_code
def y_M_isOneOf : MethodName := ⟨R_M, "isOneOf", "(III)Z"⟩
abbrev b_M_takesTopic : ByteArray := prog_12_method_41_code
def y_M_takesTopic : MethodName := ⟨R_M, "takesTopic", "(III)I"⟩
abbrev b_M_isWorn : ByteArray := prog_12_method_22_code
def y_M_isWorn : MethodName := ⟨R_M, "isWorn", "(I)Z"⟩
abbrev b_M_takesOne : ByteArray := prog_12_method_38_code
def y_M_takesOne : MethodName := ⟨R_M, "takesOne", "(II)I"⟩
abbrev b_M_joins : ByteArray := prog_12_method_31_code
def y_M_joins : MethodName := ⟨R_M, "joins", "(I)Z"⟩
abbrev b_M_lacksOne : ByteArray := prog_12_method_40_code
def y_M_lacksOne : MethodName := ⟨R_M, "lacksOne", "(I)I"⟩
abbrev b_M_takesSeveral : ByteArray := prog_12_method_39_code
def y_M_takesSeveral : MethodName := ⟨R_M, "takesSeveral", "(II)I"⟩
abbrev b_M_takes : ByteArray := prog_12_method_37_code
def y_M_takes : MethodName := ⟨R_M, "takes", "(III)I"⟩
abbrev b_M_goesWith : ByteArray := prog_12_method_42_code
def y_M_goesWith : MethodName := ⟨R_M, "goesWith", "(II)Z"⟩
abbrev b_M_isFilled : ByteArray := prog_12_method_44_code
def y_M_isFilled : MethodName := ⟨R_M, "isFilled", "(II)Z"⟩
abbrev b_M_ends : ByteArray := prog_12_method_43_code
def y_M_ends : MethodName := ⟨R_M, "ends", "(II)V"⟩
abbrev b_M_tries : ByteArray := prog_12_method_36_code
def y_M_tries : MethodName := ⟨R_M, "tries", "(I)V"⟩
abbrev b_M_without : ByteArray := prog_12_method_46_code
def y_M_without : MethodName := ⟨R_M, "without", "(I)I"⟩
abbrev b_M_isTried : ByteArray := prog_12_method_47_code
def y_M_isTried : MethodName := ⟨R_M, "isTried", "()I"⟩
abbrev b_M_parse : ByteArray := prog_12_method_51_code
def y_M_parse : MethodName := ⟨R_M, "parse", "()I"⟩
abbrev b_M_comesIn : ByteArray := prog_12_method_52_code
def y_M_comesIn : MethodName := ⟨R_M, "comesIn", "(II)V"⟩
abbrev b_M_answer : ByteArray := prog_12_method_53_code
def y_M_answer : MethodName := ⟨R_M, "answer", "(I)I"⟩
abbrev b_M_object : ByteArray := prog_12_method_54_code
def y_M_object : MethodName := ⟨R_M, "object", "(II)I"⟩
abbrev b_M_asked : ByteArray := prog_12_method_55_code
def y_M_asked : MethodName := ⟨R_M, "asked", "(I)I"⟩
abbrev b_M_filled : ByteArray := prog_12_method_56_code
def y_M_filled : MethodName := ⟨R_M, "filled", "(I)I"⟩
abbrev b_M_told : ByteArray := prog_12_method_57_code
def y_M_told : MethodName := ⟨R_M, "told", "(I)I"⟩
abbrev b_M_trace : ByteArray := prog_12_method_58_code
def y_M_trace : MethodName := ⟨R_M, "trace", "(II)I"⟩
abbrev b_M_said : ByteArray := prog_12_method_59_code
def y_M_said : MethodName := ⟨R_M, "said", "(II)I"⟩
end
section
abbrev St : Type := (Nat → Int32) × (Nat → Int64) × (Nat → Nat → Int32) × (Nat → Nat → Int64)
def gI (S : St) (k : Nat) : Int32 := S.1 k
def gL (S : St) (k : Nat) : Int64 := S.2.1 k
def gA (S : St) (k i : Nat) : Int32 := S.2.2.1 k i
def gB (S : St) (k i : Nat) : Int64 := S.2.2.2 k i
def sI (S : St) (k : Nat) (v : Int32) : St := (upd S.1 k v, S.2)
def sL (S : St) (k : Nat) (v : Int64) : St := (S.1, vp_updL S.2.1 k v, S.2.2)
def sA (S : St) (k i : Nat) (v : Int32) : St := (S.1, S.2.1, (fun j => if j = k then upd (S.2.2.1 k) i v else S.2.2.1 j), S.2.2.2)
def sB (S : St) (k i : Nat) (v : Int64) : St := (S.1, S.2.1, S.2.2.1, fun j => if j = k then vp_updL (S.2.2.2 k) i v else S.2.2.2 j)
/-! guards, ifs, binds of the functions that say what a method does -/
def gd {α : Type} (b : Bool) (a : Option α) : Option α := if b = true then a else none
theorem gd_some {α : Type} {b : Bool} {a : Option α} {z : α} (h : gd b a = some z) : b = true ∧ a = some z := by
  unfold gd at h
  by_cases hb : b = true
  · rw [if_pos hb] at h; exact ⟨hb, h⟩
  · rw [if_neg hb] at h; cases h
theorem ob_some {α β : Type} {o : Option α} {k : α → Option β} {z : β} (h : o.bind k = some z) : ∃ q, o = some q ∧ k q = some z := by
  cases o with
  | none => cases h
  | some q => exact ⟨q, rfl, h⟩
theorem if_t {α : Type} {c : Prop} [Decidable c] {a b : Option α} {z : α} (h : (if c then a else b) = some z) (hc : c) : a = some z := by rw [if_pos hc] at h; exact h
theorem if_f {α : Type} {c : Prop} [Decidable c] {a b : Option α} {z : α} (h : (if c then a else b) = some z) (hc : ¬ c) : b = some z := by rw [if_neg hc] at h; exact h
def vin (i : Int32) (n : Nat) : Bool := decide (¬ (i < 0 ∨ n ≤ i.toNatClampNeg))
theorem vin_in {i : Int32} {n : Nat} (h : vin i n = true) : vp_in i n := by
  have h2 : ¬ (i < 0 ∨ n ≤ i.toNatClampNeg) := of_decide_eq_true h
  exact h2
def isB (v : Int32) : Bool := decide (v = 0 ∨ v = 1)
theorem isB_n {v : Int32} (h : isB v = true) : narrow .boolean (.int v) = .int v := by rcases of_decide_eq_true h with rfl | rfl <;> rfl
def fu : Nat := 100000
theorem pw {D : va_G} {ws ws2 : va_W} {H : Heap} (h : ws = ws2) (hP : va_P D classes ws H) : va_P D classes ws2 H := h ▸ hP
/-! the words: those that a callee may need, and the links between nest mates -/
def gw : List Cond := lw_tbl.filter goodWord
theorem gw_good (w : Cond) (h : w ∈ gw) : (w.onTables && w.keeps) = true ∨ ∃ ty, w = .arrayClass ty := good_of_word (List.mem_filter.mp h).2
theorem in_gw {w : Cond} (i : Nat) (h : lw_tbl[i]? = some w) (g : goodWord w = true) : w ∈ gw := List.mem_filter.mpr ⟨List.mem_of_getElem? h, g⟩
def isNest : Cond → Bool
  | .fieldLinkNest .. => true
  | .methodLinkNest .. => true
  | _ => false
def nw : List Cond := lw_tbl.filter isNest
theorem in_nw {w : Cond} (i : Nat) (h : lw_tbl[i]? = some w) (g : isNest w = true) : w ∈ nw := List.mem_filter.mpr ⟨List.mem_of_getElem? h, g⟩
theorem nest_tab {w : Cond} (h : isNest w = true) : w.onTables = true := by
  match w, h with
  | .fieldLinkNest .., _ => rfl
  | .methodLinkNest .., _ => rfl
theorem nest_warm {w : Cond} {s U : State} (h : isNest w = true) (hW : s.WarmedH U.vm) (hZ : va_Nw w s) : va_Nw w U := by
  match w, h, hZ with
  | .fieldLinkNest .., _, hZ => exact va_Nw.warmF hW hZ
  | .methodLinkNest .., _, hZ => exact va_Nw.warmM hW hZ
def NW (U : State) : Prop := ∀ w ∈ nw, va_Nw w U
theorem NW.warm {s U : State} (hW : s.WarmedH U.vm) (h : NW s) : NW U := fun w hw => nest_warm (List.mem_filter.mp hw).2 hW (h w hw)
theorem NW.same {s U : State} (e : s.vm = U.vm) (h : NW s) : NW U := fun w hw => va_Nw.same (nest_tab (List.mem_filter.mp hw).2) e (h w hw)
/-! the judgements: Qx what a method leaves, Cx what holds all along, WX the machine at a place of the code, Ct a method's contract -/
def Qx {σ : Type} (D : va_G) (A : Nat → Prop) (Wf : σ → va_W) (v : Option Value) (S2 : σ) : Array Value → State → Outcome → State → Prop := fun _ st oc t => (oc = .returned v ∧ va_P D classes (Wf S2) t.heap) ∧ va_F A st t
def Cx {σ : Type} (cc : ByteArray) (nL : Nat) (rt : Option FieldType) (own : String) (D : va_G) (tys : List (ClassId × FieldType)) (A : Nat → Prop) (Wf : σ → va_W) (p : Program) (s : State) (m : MethodId) (args : Array Value) (meth : Method) (c : Code) : Prop := p.tables.exec = Jvm.exec ∧ c.code = cc ∧ meth.sig.returnType = rt ∧ c.maxLocals = nL ∧ s.vm.findClass own = some m.cls ∧ (∀ w ∈ gw, w.before args s = true) ∧ meth.locks = false ∧ va_K D classes tys s ∧ NW s ∧ ∀ S : σ, va_D A (Wf S)
def WX {σ : Type} (R : Room) (D : va_G) (A : Nat → Prop) (Wf : σ → va_W) (p : Program) (l : Launch) (e : Env) (s : State) (m : MethodId) (args : Array Value) (below : List Frame) (meth : Method) (c : Code) (v : Option Value) (S2 : σ) (pc : Nat) (st : List Value) (nL : Nat) (lv : List (Nat × Value)) (S : σ) : Prop := ∀ (H : Heap) (locs : List Loc) (ls : Array Slot), va_P D classes (Wf S) H → va_S A s.heap H locs → lv_has ls nL lv → W p l e R s m args below meth c H locs 0 0 (MQ below (Qx D A Wf v S2) args s 0 0 A) (F0 m pc ls st)
def PX {σ : Type} (D : va_G) (tys : List (ClassId × FieldType)) (A : Nat → Prop) (Wf : σ → va_W) (av : List Value) (S : σ) : Array Value → State → Prop := va_Pc av (fun U => va_P D classes (Wf S) U.heap ∧ va_K D classes tys U ∧ NW U ∧ ∀ S : σ, va_D A (Wf S))
def Ct {σ : Type} (l : Launch) (y : MethodName) (ws : List Cond) (rm : Room) (D : va_G) (tys : List (ClassId × FieldType)) (A : Nat → Prop) (Wf : σ → va_W) (av : List Value) (S : σ) (v : Option Value) (S2 : σ) : Prop := Met l y ws rm (PX D tys A Wf av S) (Qx D A Wf v S2) 0 0 A
theorem PX_blind {σ : Type} {D : va_G} {tys : List (ClassId × FieldType)} {A : Nat → Prop} {Wf : σ → va_W} {av : List Value} {S : σ} : FrameBlind (PX D tys A Wf av S) := fun a U g mk q => by
  obtain ⟨q0, qP, qK, qN, qI⟩ := q
  exact ⟨q0, qP, va_K.moved (u := U) (U := U.calling g mk a) (Vm.Alike.refl U.vm) qK, NW.same (s := U) (U := U.calling g mk a) rfl qN, qI⟩
theorem Ct_of {σ : Type} {l : Launch} {y : MethodName} {cc : ByteArray} {nL : Nat} {rt : Option FieldType} {rm : Room} {D : va_G} {tys : List (ClassId × FieldType)} {A : Nat → Prop} {Wf : σ → va_W} {av : List Value} {S S2 : σ} {v : Option Value} (hy : plainName y.cls = true)
    (body : ∀ (p : Program) (e : Env) (s : State) (m : MethodId) (args : Array Value) (below : List Frame) (meth : Method) (c : Code), Cx cc nL rt y.cls D tys A Wf p s m args meth c → WX rm D A Wf p l e s m args below meth c v S2 0 [] nL (lv_args 0 av) S) (hlen : (lg_sl av).length ≤ nL) : Ct l y (.code y cc nL rt :: gw) rm D tys A Wf av S v S2 := by
  refine Met.ofW (cc := cc) (maxL := nL) (ret := rt) hy rfl ?_
  intro p e s m args below meth c s₁ B hml hv
  obtain ⟨rfl, hP, hK, hN, hI⟩ := hv
  have hts := atoms_spec (ws := .code y cc nL rt :: gw) B.pre
  rw [lg_entry_eq]
  exact body p e s m _ below meth c ⟨B.exec, B.bytes, B.returns, hml, findClass_of_methodNamed B.named, fun w h => hts w (List.mem_cons_of_mem _ h), B.notSynchronized, hK, hN, hI⟩ _ _ _ hP va_S.rf (lv_entry av hlen)
def nm2 (y : MethodName) (n : Nat) : Prop := y.cls ≠ "java/lang/invoke/MethodHandle" ∧ y.cls ≠ "java/lang/invoke/VarHandle" ∧ (parseMethodDescriptor y.desc).map (fun d => d.parameters.length) = some n
/-- what a call of an instance method needs of the tables -/
def CalV (y : MethodName) (bytes : ByteArray) (maxL : Nat) (ret : Option FieldType) (n : Nat) (rm : Room) : Prop := Cond.code y bytes maxL ret ∈ gw ∧ Cond.instanceMethod y ∈ gw ∧ Cond.selects y.cls y y ∈ gw ∧ Cond.initialized y.cls ∈ gw ∧ nm2 y n ∧ rm.cells = 0 ∧ rm.slots = 0
def CalS (y : MethodName) (bytes : ByteArray) (maxL : Nat) (ret : Option FieldType) (n : Nat) (rm : Room) : Prop := Cond.code y bytes maxL ret ∈ gw ∧ Cond.static y ∈ gw ∧ Cond.initialized y.cls ∈ gw ∧ nm2 y n ∧ rm.cells = 0 ∧ rm.slots = 0
section CALLS
variable {p : Program} {l : Launch} {e : Env} {R : Room} {s : State} {m : MethodId} {args : Array Value} {below : List Frame} {meth : Method} {c : Code} {H : Heap} {locs : List Loc} {Q : State → Prop}
variable {σ : Type} {D : va_G} {tys : List (ClassId × FieldType)} {A : Nat → Prop} {Wf : σ → va_W} {y : MethodName} {bytes cc : ByteArray} {maxL nL n index pc : Nat} {ret rt : Option FieldType} {rm : Room} {own host : String} {b : Addr} {As rest st0 : List Value} {S S1 : σ} {v : Option Value} {ls : Array Slot} {a : Array Value}
theorem fin_call (hr : va_Run p l e R s m args below meth c H locs 0 0 0 0 (F0 m pc ls st0) rest (Qx D A Wf v S1 a) A) (hS : va_S A s.heap H locs) (kk : ∀ (H1 : Heap) (locs1 : List Loc), va_P D classes (Wf S1) H1 → va_S A s.heap H1 locs1 → W p l e R s m args below meth c H1 locs1 0 0 Q (F0 m (pc + 3) ls (v.toList ++ rest))) : W p l e R s m args below meth c H locs 0 0 Q (F0 m pc ls st0) := by
  intro T hT X
  obtain ⟨w, st₀, t, T2, L, h0, X2, hL, e1, e2, ⟨⟨hv, hp⟩, hz, hk⟩, st⟩ := hr T hT X
  cases hv
  rw [h0] at hz hk
  obtain ⟨t2, a1, b1⟩ := kk T2.heap (locs ++ L) (by rw [e1]; exact hp) ⟨Nat.le_trans hS.1 (by rw [e1]; exact hz), fun q h1 h2 => by rw [e1, hk q (Nat.lt_of_lt_of_le h1 hS.1) h2]; exact hS.2.1 q h1 h2, fun q hq => by
      rcases List.mem_append.mp hq with h | h
      · exact hS.2.2 q h
      · exact hL q h⟩ T2 rfl X2
  exact ⟨t2, st t2 a1, b1⟩
theorem good_code (h : Cond.code y bytes maxL ret ∈ gw) : GoodIn gw (Cond.code y bytes maxL ret :: gw) := by
  intro w hw
  have hm : w ∈ gw := by
    rcases List.mem_cons.mp hw with rfl | h2
    · exact h
    · exact h2
  exact ⟨hm, gw_good w hm⟩
theorem cl_V (X : Cx cc nL rt own D tys A Wf p s m args meth c) (hM : Ct l y (.code y bytes maxL ret :: gw) rm D tys A Wf (.ref b :: As) S v S1) (ok : CalV y bytes maxL ret n rm) (hlink : Cond.methodLink own index y ∈ gw) (hrecv : ∃ cell : Cell, H[b]? = some cell ∧ cell.vm.isStatics = false ∧ s.vm.findClass y.cls = some cell.cls) (hst : st0 = As.reverse ++ .ref b :: rest) (hn : As.length = n) (hsz : ls.size = nL) (hW : (rest.map fun v => v.category).sum ≤ 8) (hdg : decode cc pc = .ok (.invokevirtual index, 3)) (hR : rm.frames + 1 ≤ R.frames ∧ 8 + (maxL + 11) + rm.locals ≤ R.locals) (hP : va_P D classes (Wf S) H) (hS : va_S A s.heap H locs) (kk : ∀ (H1 : Heap) (locs1 : List Loc), va_P D classes (Wf S1) H1 → va_S A s.heap H1 locs1 → W p l e R s m args below meth c H1 locs1 0 0 Q (F0 m (pc + 3) ls (v.toList ++ rest))) : W p l e R s m args below meth c H locs 0 0 Q (F0 m pc ls st0) := by
  obtain ⟨hx, hb, hr0, hml, hown, htg, hlk, hK, hN, hI⟩ := id X
  obtain ⟨hcode, hinst, hsel, hini, hd, hc0, hs0⟩ := ok
  have cw : CallW R s args own y.cls index y bytes maxL ret (.code y bytes maxL ret :: gw) rm 0 0 n := ⟨callB_of n htg (good_code hcode) rfl hc0 hs0 (htg _ hini) (htg _ hlink) hd hR, htg _ hinst, htg _ hsel⟩
  exact fin_call (va_runV (As := As) (rest := rest) ⟨hx, hb, hml, hown, htg⟩ hM cw ⟨PX_blind, hrecv, fun U hU hW2 => ⟨rfl, by rw [hU]; exact hP, va_K.moved hW2.alike hK, NW.warm hW2 hN, hI⟩⟩ rfl hn hsz hst (lv_room hW) hdg ⟨Nat.zero_le _, Nat.zero_le _⟩) hS kk
theorem cl_Vi {r : Int32} (X : Cx cc nL rt own D tys A Wf p s m args meth c) (hM : Ct l y (.code y bytes maxL ret :: gw) rm D tys A Wf (.ref b :: As) S (some (.int r)) S1) (ok : CalV y bytes maxL ret n rm) (hlink : Cond.methodLink own index y ∈ gw) (hrecv : ∃ cell : Cell, H[b]? = some cell ∧ cell.vm.isStatics = false ∧ s.vm.findClass y.cls = some cell.cls) (hst : st0 = As.reverse ++ .ref b :: rest) (hn : As.length = n) (hsz : ls.size = nL) (hW : (rest.map fun v => v.category).sum ≤ 8) (hdg : decode cc pc = .ok (.invokevirtual index, 3)) (hR : rm.frames + 1 ≤ R.frames ∧ 8 + (maxL + 11) + rm.locals ≤ R.locals) (hP : va_P D classes (Wf S) H) (hS : va_S A s.heap H locs) (kk : ∀ (H1 : Heap) (locs1 : List Loc), va_P D classes (Wf S1) H1 → va_S A s.heap H1 locs1 → W p l e R s m args below meth c H1 locs1 0 0 Q (F0 m (pc + 3) ls (.int r :: rest))) : W p l e R s m args below meth c H locs 0 0 Q (F0 m pc ls st0) :=
  cl_V X hM ok hlink hrecv hst hn hsz hW hdg hR hP hS kk
theorem cl_Vl {r : Int64} (X : Cx cc nL rt own D tys A Wf p s m args meth c) (hM : Ct l y (.code y bytes maxL ret :: gw) rm D tys A Wf (.ref b :: As) S (some (.long r)) S1) (ok : CalV y bytes maxL ret n rm) (hlink : Cond.methodLink own index y ∈ gw) (hrecv : ∃ cell : Cell, H[b]? = some cell ∧ cell.vm.isStatics = false ∧ s.vm.findClass y.cls = some cell.cls) (hst : st0 = As.reverse ++ .ref b :: rest) (hn : As.length = n) (hsz : ls.size = nL) (hW : (rest.map fun v => v.category).sum ≤ 8) (hdg : decode cc pc = .ok (.invokevirtual index, 3)) (hR : rm.frames + 1 ≤ R.frames ∧ 8 + (maxL + 11) + rm.locals ≤ R.locals) (hP : va_P D classes (Wf S) H) (hS : va_S A s.heap H locs) (kk : ∀ (H1 : Heap) (locs1 : List Loc), va_P D classes (Wf S1) H1 → va_S A s.heap H1 locs1 → W p l e R s m args below meth c H1 locs1 0 0 Q (F0 m (pc + 3) ls (.long r :: rest))) : W p l e R s m args below meth c H locs 0 0 Q (F0 m pc ls st0) :=
  cl_V X hM ok hlink hrecv hst hn hsz hW hdg hR hP hS kk
theorem cl_Vr {r : Nat} (X : Cx cc nL rt own D tys A Wf p s m args meth c) (hM : Ct l y (.code y bytes maxL ret :: gw) rm D tys A Wf (.ref b :: As) S (some (.ref r)) S1) (ok : CalV y bytes maxL ret n rm) (hlink : Cond.methodLink own index y ∈ gw) (hrecv : ∃ cell : Cell, H[b]? = some cell ∧ cell.vm.isStatics = false ∧ s.vm.findClass y.cls = some cell.cls) (hst : st0 = As.reverse ++ .ref b :: rest) (hn : As.length = n) (hsz : ls.size = nL) (hW : (rest.map fun v => v.category).sum ≤ 8) (hdg : decode cc pc = .ok (.invokevirtual index, 3)) (hR : rm.frames + 1 ≤ R.frames ∧ 8 + (maxL + 11) + rm.locals ≤ R.locals) (hP : va_P D classes (Wf S) H) (hS : va_S A s.heap H locs) (kk : ∀ (H1 : Heap) (locs1 : List Loc), va_P D classes (Wf S1) H1 → va_S A s.heap H1 locs1 → W p l e R s m args below meth c H1 locs1 0 0 Q (F0 m (pc + 3) ls (.ref r :: rest))) : W p l e R s m args below meth c H locs 0 0 Q (F0 m pc ls st0) :=
  cl_V X hM ok hlink hrecv hst hn hsz hW hdg hR hP hS kk
theorem cl_Vv (X : Cx cc nL rt own D tys A Wf p s m args meth c) (hM : Ct l y (.code y bytes maxL ret :: gw) rm D tys A Wf (.ref b :: As) S none S1) (ok : CalV y bytes maxL ret n rm) (hlink : Cond.methodLink own index y ∈ gw) (hrecv : ∃ cell : Cell, H[b]? = some cell ∧ cell.vm.isStatics = false ∧ s.vm.findClass y.cls = some cell.cls) (hst : st0 = As.reverse ++ .ref b :: rest) (hn : As.length = n) (hsz : ls.size = nL) (hW : (rest.map fun v => v.category).sum ≤ 8) (hdg : decode cc pc = .ok (.invokevirtual index, 3)) (hR : rm.frames + 1 ≤ R.frames ∧ 8 + (maxL + 11) + rm.locals ≤ R.locals) (hP : va_P D classes (Wf S) H) (hS : va_S A s.heap H locs) (kk : ∀ (H1 : Heap) (locs1 : List Loc), va_P D classes (Wf S1) H1 → va_S A s.heap H1 locs1 → W p l e R s m args below meth c H1 locs1 0 0 Q (F0 m (pc + 3) ls (rest))) : W p l e R s m args below meth c H locs 0 0 Q (F0 m pc ls st0) :=
  cl_V X hM ok hlink hrecv hst hn hsz hW hdg hR hP hS kk
theorem cl_N (X : Cx cc nL rt own D tys A Wf p s m args meth c) (hM : Ct l y (.code y bytes maxL ret :: gw) rm D tys A Wf (.ref b :: As) S v S1) (ok : CalV y bytes maxL ret n rm) (hlink : Cond.methodLinkNest own index y host ∈ nw) (hrecv : ∃ cell : Cell, H[b]? = some cell ∧ cell.vm.isStatics = false ∧ s.vm.findClass y.cls = some cell.cls) (hst : st0 = As.reverse ++ .ref b :: rest) (hn : As.length = n) (hsz : ls.size = nL) (hW : (rest.map fun v => v.category).sum ≤ 8) (hdg : decode cc pc = .ok (.invokevirtual index, 3)) (hR : rm.frames + 1 ≤ R.frames ∧ 8 + (maxL + 11) + rm.locals ≤ R.locals) (hP : va_P D classes (Wf S) H) (hS : va_S A s.heap H locs) (kk : ∀ (H1 : Heap) (locs1 : List Loc), va_P D classes (Wf S1) H1 → va_S A s.heap H1 locs1 → W p l e R s m args below meth c H1 locs1 0 0 Q (F0 m (pc + 3) ls (v.toList ++ rest))) : W p l e R s m args below meth c H locs 0 0 Q (F0 m pc ls st0) := by
  obtain ⟨hx, hb, hr0, hml, hown, htg, hlk, hK, hN, hI⟩ := id X
  obtain ⟨hcode, hinst, hsel, hini, hd, hc0, hs0⟩ := ok
  have cw := va_cnB (R := R) (own := own) (index := index) n htg (good_code hcode) rfl hc0 hs0 (hN _ hlink) (htg _ hini) hd hR
  exact fin_call (va_runVN (C := y.cls) (As := As) (rest := rest) ⟨hx, hb, hml, hown, htg⟩ hM ⟨cw, htg _ hinst, htg _ hsel⟩ ⟨PX_blind, hrecv, fun U hU hW2 => ⟨rfl, by rw [hU]; exact hP, va_K.moved hW2.alike hK, NW.warm hW2 hN, hI⟩⟩ rfl hn hsz hst (lv_room hW) hdg ⟨Nat.zero_le _, Nat.zero_le _⟩) hS kk
theorem cl_Ni {r : Int32} (X : Cx cc nL rt own D tys A Wf p s m args meth c) (hM : Ct l y (.code y bytes maxL ret :: gw) rm D tys A Wf (.ref b :: As) S (some (.int r)) S1) (ok : CalV y bytes maxL ret n rm) (hlink : Cond.methodLinkNest own index y host ∈ nw) (hrecv : ∃ cell : Cell, H[b]? = some cell ∧ cell.vm.isStatics = false ∧ s.vm.findClass y.cls = some cell.cls) (hst : st0 = As.reverse ++ .ref b :: rest) (hn : As.length = n) (hsz : ls.size = nL) (hW : (rest.map fun v => v.category).sum ≤ 8) (hdg : decode cc pc = .ok (.invokevirtual index, 3)) (hR : rm.frames + 1 ≤ R.frames ∧ 8 + (maxL + 11) + rm.locals ≤ R.locals) (hP : va_P D classes (Wf S) H) (hS : va_S A s.heap H locs) (kk : ∀ (H1 : Heap) (locs1 : List Loc), va_P D classes (Wf S1) H1 → va_S A s.heap H1 locs1 → W p l e R s m args below meth c H1 locs1 0 0 Q (F0 m (pc + 3) ls (.int r :: rest))) : W p l e R s m args below meth c H locs 0 0 Q (F0 m pc ls st0) :=
  cl_N X hM ok hlink hrecv hst hn hsz hW hdg hR hP hS kk
theorem cl_Nl {r : Int64} (X : Cx cc nL rt own D tys A Wf p s m args meth c) (hM : Ct l y (.code y bytes maxL ret :: gw) rm D tys A Wf (.ref b :: As) S (some (.long r)) S1) (ok : CalV y bytes maxL ret n rm) (hlink : Cond.methodLinkNest own index y host ∈ nw) (hrecv : ∃ cell : Cell, H[b]? = some cell ∧ cell.vm.isStatics = false ∧ s.vm.findClass y.cls = some cell.cls) (hst : st0 = As.reverse ++ .ref b :: rest) (hn : As.length = n) (hsz : ls.size = nL) (hW : (rest.map fun v => v.category).sum ≤ 8) (hdg : decode cc pc = .ok (.invokevirtual index, 3)) (hR : rm.frames + 1 ≤ R.frames ∧ 8 + (maxL + 11) + rm.locals ≤ R.locals) (hP : va_P D classes (Wf S) H) (hS : va_S A s.heap H locs) (kk : ∀ (H1 : Heap) (locs1 : List Loc), va_P D classes (Wf S1) H1 → va_S A s.heap H1 locs1 → W p l e R s m args below meth c H1 locs1 0 0 Q (F0 m (pc + 3) ls (.long r :: rest))) : W p l e R s m args below meth c H locs 0 0 Q (F0 m pc ls st0) :=
  cl_N X hM ok hlink hrecv hst hn hsz hW hdg hR hP hS kk
theorem cl_Nr {r : Nat} (X : Cx cc nL rt own D tys A Wf p s m args meth c) (hM : Ct l y (.code y bytes maxL ret :: gw) rm D tys A Wf (.ref b :: As) S (some (.ref r)) S1) (ok : CalV y bytes maxL ret n rm) (hlink : Cond.methodLinkNest own index y host ∈ nw) (hrecv : ∃ cell : Cell, H[b]? = some cell ∧ cell.vm.isStatics = false ∧ s.vm.findClass y.cls = some cell.cls) (hst : st0 = As.reverse ++ .ref b :: rest) (hn : As.length = n) (hsz : ls.size = nL) (hW : (rest.map fun v => v.category).sum ≤ 8) (hdg : decode cc pc = .ok (.invokevirtual index, 3)) (hR : rm.frames + 1 ≤ R.frames ∧ 8 + (maxL + 11) + rm.locals ≤ R.locals) (hP : va_P D classes (Wf S) H) (hS : va_S A s.heap H locs) (kk : ∀ (H1 : Heap) (locs1 : List Loc), va_P D classes (Wf S1) H1 → va_S A s.heap H1 locs1 → W p l e R s m args below meth c H1 locs1 0 0 Q (F0 m (pc + 3) ls (.ref r :: rest))) : W p l e R s m args below meth c H locs 0 0 Q (F0 m pc ls st0) :=
  cl_N X hM ok hlink hrecv hst hn hsz hW hdg hR hP hS kk
theorem cl_Nv (X : Cx cc nL rt own D tys A Wf p s m args meth c) (hM : Ct l y (.code y bytes maxL ret :: gw) rm D tys A Wf (.ref b :: As) S none S1) (ok : CalV y bytes maxL ret n rm) (hlink : Cond.methodLinkNest own index y host ∈ nw) (hrecv : ∃ cell : Cell, H[b]? = some cell ∧ cell.vm.isStatics = false ∧ s.vm.findClass y.cls = some cell.cls) (hst : st0 = As.reverse ++ .ref b :: rest) (hn : As.length = n) (hsz : ls.size = nL) (hW : (rest.map fun v => v.category).sum ≤ 8) (hdg : decode cc pc = .ok (.invokevirtual index, 3)) (hR : rm.frames + 1 ≤ R.frames ∧ 8 + (maxL + 11) + rm.locals ≤ R.locals) (hP : va_P D classes (Wf S) H) (hS : va_S A s.heap H locs) (kk : ∀ (H1 : Heap) (locs1 : List Loc), va_P D classes (Wf S1) H1 → va_S A s.heap H1 locs1 → W p l e R s m args below meth c H1 locs1 0 0 Q (F0 m (pc + 3) ls (rest))) : W p l e R s m args below meth c H locs 0 0 Q (F0 m pc ls st0) :=
  cl_N X hM ok hlink hrecv hst hn hsz hW hdg hR hP hS kk
theorem cl_S (X : Cx cc nL rt own D tys A Wf p s m args meth c) (hM : Ct l y (.code y bytes maxL ret :: gw) rm D tys A Wf As S v S1) (ok : CalS y bytes maxL ret n rm) (hlink : Cond.methodLink own index y ∈ gw) (hst : st0 = As.reverse ++ rest) (hn : As.length = n) (hsz : ls.size = nL) (hW : (rest.map fun v => v.category).sum ≤ 8) (hdg : decode cc pc = .ok (.invokestatic index, 3)) (hR : rm.frames + 1 ≤ R.frames ∧ 8 + (maxL + 11) + rm.locals ≤ R.locals) (hP : va_P D classes (Wf S) H) (hS : va_S A s.heap H locs) (kk : ∀ (H1 : Heap) (locs1 : List Loc), va_P D classes (Wf S1) H1 → va_S A s.heap H1 locs1 → W p l e R s m args below meth c H1 locs1 0 0 Q (F0 m (pc + 3) ls (v.toList ++ rest))) : W p l e R s m args below meth c H locs 0 0 Q (F0 m pc ls st0) := by
  obtain ⟨hx, hb, hr0, hml, hown, htg, hlk, hK, hN, hI⟩ := id X
  obtain ⟨hcode, hstat, hini, hd, hc0, hs0⟩ := ok
  have cw : CallB R s args own index y bytes maxL ret (.code y bytes maxL ret :: gw) rm 0 0 n := callB_of n htg (good_code hcode) rfl hc0 hs0 (htg _ hini) (htg _ hlink) hd hR
  exact fin_call (va_runS (As := As) (rest := rest) ⟨hx, hb, hml, hown, htg⟩ hM ⟨cw, htg _ hstat⟩ ⟨PX_blind, fun U hU hW2 => ⟨rfl, by rw [hU]; exact hP, va_K.moved hW2.alike hK, NW.warm hW2 hN, hI⟩⟩ rfl hn hsz hst (lv_room hW) hdg ⟨Nat.zero_le _, Nat.zero_le _⟩) hS kk
theorem cl_Si {r : Int32} (X : Cx cc nL rt own D tys A Wf p s m args meth c) (hM : Ct l y (.code y bytes maxL ret :: gw) rm D tys A Wf As S (some (.int r)) S1) (ok : CalS y bytes maxL ret n rm) (hlink : Cond.methodLink own index y ∈ gw) (hst : st0 = As.reverse ++ rest) (hn : As.length = n) (hsz : ls.size = nL) (hW : (rest.map fun v => v.category).sum ≤ 8) (hdg : decode cc pc = .ok (.invokestatic index, 3)) (hR : rm.frames + 1 ≤ R.frames ∧ 8 + (maxL + 11) + rm.locals ≤ R.locals) (hP : va_P D classes (Wf S) H) (hS : va_S A s.heap H locs) (kk : ∀ (H1 : Heap) (locs1 : List Loc), va_P D classes (Wf S1) H1 → va_S A s.heap H1 locs1 → W p l e R s m args below meth c H1 locs1 0 0 Q (F0 m (pc + 3) ls (.int r :: rest))) : W p l e R s m args below meth c H locs 0 0 Q (F0 m pc ls st0) :=
  cl_S X hM ok hlink hst hn hsz hW hdg hR hP hS kk
theorem cl_Sl {r : Int64} (X : Cx cc nL rt own D tys A Wf p s m args meth c) (hM : Ct l y (.code y bytes maxL ret :: gw) rm D tys A Wf As S (some (.long r)) S1) (ok : CalS y bytes maxL ret n rm) (hlink : Cond.methodLink own index y ∈ gw) (hst : st0 = As.reverse ++ rest) (hn : As.length = n) (hsz : ls.size = nL) (hW : (rest.map fun v => v.category).sum ≤ 8) (hdg : decode cc pc = .ok (.invokestatic index, 3)) (hR : rm.frames + 1 ≤ R.frames ∧ 8 + (maxL + 11) + rm.locals ≤ R.locals) (hP : va_P D classes (Wf S) H) (hS : va_S A s.heap H locs) (kk : ∀ (H1 : Heap) (locs1 : List Loc), va_P D classes (Wf S1) H1 → va_S A s.heap H1 locs1 → W p l e R s m args below meth c H1 locs1 0 0 Q (F0 m (pc + 3) ls (.long r :: rest))) : W p l e R s m args below meth c H locs 0 0 Q (F0 m pc ls st0) :=
  cl_S X hM ok hlink hst hn hsz hW hdg hR hP hS kk
theorem cl_Sr {r : Nat} (X : Cx cc nL rt own D tys A Wf p s m args meth c) (hM : Ct l y (.code y bytes maxL ret :: gw) rm D tys A Wf As S (some (.ref r)) S1) (ok : CalS y bytes maxL ret n rm) (hlink : Cond.methodLink own index y ∈ gw) (hst : st0 = As.reverse ++ rest) (hn : As.length = n) (hsz : ls.size = nL) (hW : (rest.map fun v => v.category).sum ≤ 8) (hdg : decode cc pc = .ok (.invokestatic index, 3)) (hR : rm.frames + 1 ≤ R.frames ∧ 8 + (maxL + 11) + rm.locals ≤ R.locals) (hP : va_P D classes (Wf S) H) (hS : va_S A s.heap H locs) (kk : ∀ (H1 : Heap) (locs1 : List Loc), va_P D classes (Wf S1) H1 → va_S A s.heap H1 locs1 → W p l e R s m args below meth c H1 locs1 0 0 Q (F0 m (pc + 3) ls (.ref r :: rest))) : W p l e R s m args below meth c H locs 0 0 Q (F0 m pc ls st0) :=
  cl_S X hM ok hlink hst hn hsz hW hdg hR hP hS kk
theorem cl_Sv (X : Cx cc nL rt own D tys A Wf p s m args meth c) (hM : Ct l y (.code y bytes maxL ret :: gw) rm D tys A Wf As S none S1) (ok : CalS y bytes maxL ret n rm) (hlink : Cond.methodLink own index y ∈ gw) (hst : st0 = As.reverse ++ rest) (hn : As.length = n) (hsz : ls.size = nL) (hW : (rest.map fun v => v.category).sum ≤ 8) (hdg : decode cc pc = .ok (.invokestatic index, 3)) (hR : rm.frames + 1 ≤ R.frames ∧ 8 + (maxL + 11) + rm.locals ≤ R.locals) (hP : va_P D classes (Wf S) H) (hS : va_S A s.heap H locs) (kk : ∀ (H1 : Heap) (locs1 : List Loc), va_P D classes (Wf S1) H1 → va_S A s.heap H1 locs1 → W p l e R s m args below meth c H1 locs1 0 0 Q (F0 m (pc + 3) ls (rest))) : W p l e R s m args below meth c H locs 0 0 Q (F0 m pc ls st0) :=
  cl_S X hM ok hlink hst hn hsz hW hdg hR hP hS kk
theorem cl_T (X : Cx cc nL rt own D tys A Wf p s m args meth c) (hM : Ct l y (.code y bytes maxL ret :: gw) rm D tys A Wf As S v S1) (ok : CalS y bytes maxL ret n rm) (hlink : Cond.methodLinkNest own index y host ∈ nw) (hst : st0 = As.reverse ++ rest) (hn : As.length = n) (hsz : ls.size = nL) (hW : (rest.map fun v => v.category).sum ≤ 8) (hdg : decode cc pc = .ok (.invokestatic index, 3)) (hR : rm.frames + 1 ≤ R.frames ∧ 8 + (maxL + 11) + rm.locals ≤ R.locals) (hP : va_P D classes (Wf S) H) (hS : va_S A s.heap H locs) (kk : ∀ (H1 : Heap) (locs1 : List Loc), va_P D classes (Wf S1) H1 → va_S A s.heap H1 locs1 → W p l e R s m args below meth c H1 locs1 0 0 Q (F0 m (pc + 3) ls (v.toList ++ rest))) : W p l e R s m args below meth c H locs 0 0 Q (F0 m pc ls st0) := by
  obtain ⟨hx, hb, hr0, hml, hown, htg, hlk, hK, hN, hI⟩ := id X
  obtain ⟨hcode, hstat, hini, hd, hc0, hs0⟩ := ok
  have cw := va_cnB (R := R) (own := own) (index := index) n htg (good_code hcode) rfl hc0 hs0 (hN _ hlink) (htg _ hini) hd hR
  exact fin_call (va_runSN (As := As) (rest := rest) ⟨hx, hb, hml, hown, htg⟩ hM ⟨cw, htg _ hstat, trivial⟩ ⟨PX_blind, fun U hU hW2 => ⟨rfl, by rw [hU]; exact hP, va_K.moved hW2.alike hK, NW.warm hW2 hN, hI⟩⟩ rfl hn hsz hst (lv_room hW) hdg ⟨Nat.zero_le _, Nat.zero_le _⟩) hS kk
theorem cl_Ti {r : Int32} (X : Cx cc nL rt own D tys A Wf p s m args meth c) (hM : Ct l y (.code y bytes maxL ret :: gw) rm D tys A Wf As S (some (.int r)) S1) (ok : CalS y bytes maxL ret n rm) (hlink : Cond.methodLinkNest own index y host ∈ nw) (hst : st0 = As.reverse ++ rest) (hn : As.length = n) (hsz : ls.size = nL) (hW : (rest.map fun v => v.category).sum ≤ 8) (hdg : decode cc pc = .ok (.invokestatic index, 3)) (hR : rm.frames + 1 ≤ R.frames ∧ 8 + (maxL + 11) + rm.locals ≤ R.locals) (hP : va_P D classes (Wf S) H) (hS : va_S A s.heap H locs) (kk : ∀ (H1 : Heap) (locs1 : List Loc), va_P D classes (Wf S1) H1 → va_S A s.heap H1 locs1 → W p l e R s m args below meth c H1 locs1 0 0 Q (F0 m (pc + 3) ls (.int r :: rest))) : W p l e R s m args below meth c H locs 0 0 Q (F0 m pc ls st0) :=
  cl_T X hM ok hlink hst hn hsz hW hdg hR hP hS kk
theorem cl_Tl {r : Int64} (X : Cx cc nL rt own D tys A Wf p s m args meth c) (hM : Ct l y (.code y bytes maxL ret :: gw) rm D tys A Wf As S (some (.long r)) S1) (ok : CalS y bytes maxL ret n rm) (hlink : Cond.methodLinkNest own index y host ∈ nw) (hst : st0 = As.reverse ++ rest) (hn : As.length = n) (hsz : ls.size = nL) (hW : (rest.map fun v => v.category).sum ≤ 8) (hdg : decode cc pc = .ok (.invokestatic index, 3)) (hR : rm.frames + 1 ≤ R.frames ∧ 8 + (maxL + 11) + rm.locals ≤ R.locals) (hP : va_P D classes (Wf S) H) (hS : va_S A s.heap H locs) (kk : ∀ (H1 : Heap) (locs1 : List Loc), va_P D classes (Wf S1) H1 → va_S A s.heap H1 locs1 → W p l e R s m args below meth c H1 locs1 0 0 Q (F0 m (pc + 3) ls (.long r :: rest))) : W p l e R s m args below meth c H locs 0 0 Q (F0 m pc ls st0) :=
  cl_T X hM ok hlink hst hn hsz hW hdg hR hP hS kk
theorem cl_Tr {r : Nat} (X : Cx cc nL rt own D tys A Wf p s m args meth c) (hM : Ct l y (.code y bytes maxL ret :: gw) rm D tys A Wf As S (some (.ref r)) S1) (ok : CalS y bytes maxL ret n rm) (hlink : Cond.methodLinkNest own index y host ∈ nw) (hst : st0 = As.reverse ++ rest) (hn : As.length = n) (hsz : ls.size = nL) (hW : (rest.map fun v => v.category).sum ≤ 8) (hdg : decode cc pc = .ok (.invokestatic index, 3)) (hR : rm.frames + 1 ≤ R.frames ∧ 8 + (maxL + 11) + rm.locals ≤ R.locals) (hP : va_P D classes (Wf S) H) (hS : va_S A s.heap H locs) (kk : ∀ (H1 : Heap) (locs1 : List Loc), va_P D classes (Wf S1) H1 → va_S A s.heap H1 locs1 → W p l e R s m args below meth c H1 locs1 0 0 Q (F0 m (pc + 3) ls (.ref r :: rest))) : W p l e R s m args below meth c H locs 0 0 Q (F0 m pc ls st0) :=
  cl_T X hM ok hlink hst hn hsz hW hdg hR hP hS kk
theorem cl_Tv (X : Cx cc nL rt own D tys A Wf p s m args meth c) (hM : Ct l y (.code y bytes maxL ret :: gw) rm D tys A Wf As S none S1) (ok : CalS y bytes maxL ret n rm) (hlink : Cond.methodLinkNest own index y host ∈ nw) (hst : st0 = As.reverse ++ rest) (hn : As.length = n) (hsz : ls.size = nL) (hW : (rest.map fun v => v.category).sum ≤ 8) (hdg : decode cc pc = .ok (.invokestatic index, 3)) (hR : rm.frames + 1 ≤ R.frames ∧ 8 + (maxL + 11) + rm.locals ≤ R.locals) (hP : va_P D classes (Wf S) H) (hS : va_S A s.heap H locs) (kk : ∀ (H1 : Heap) (locs1 : List Loc), va_P D classes (Wf S1) H1 → va_S A s.heap H1 locs1 → W p l e R s m args below meth c H1 locs1 0 0 Q (F0 m (pc + 3) ls (rest))) : W p l e R s m args below meth c H locs 0 0 Q (F0 m pc ls st0) :=
  cl_T X hM ok hlink hst hn hsz hW hdg hR hP hS kk
end CALLS
end
section
theorem in_Row : ∀ w ∈ u_ws R_Row F_Row 2, w ∈ gw :=
  show ∀ w ∈ [u_lay R_Row F_Row 0, u_lay R_Row F_Row 1], w ∈ gw from List.forall_mem_cons.mpr ⟨in_gw 130 (by decide +kernel) rfl, List.forall_mem_cons.mpr ⟨in_gw 132 (by decide +kernel) rfl, fun _ h => absurd h List.not_mem_nil⟩⟩
theorem ji_Row : Cond.initialized R_Row ∈ gw := in_gw 61 (by decide +kernel) rfl
theorem in_Slot : ∀ w ∈ u_ws R_Slot F_Slot 4, w ∈ gw :=
  show ∀ w ∈ [u_lay R_Slot F_Slot 0, u_lay R_Slot F_Slot 1, u_lay R_Slot F_Slot 2, u_lay R_Slot F_Slot 3], w ∈ gw from List.forall_mem_cons.mpr ⟨in_gw 239 (by decide +kernel) rfl, List.forall_mem_cons.mpr ⟨in_gw 241 (by decide +kernel) rfl, List.forall_mem_cons.mpr ⟨in_gw 243 (by decide +kernel) rfl, List.forall_mem_cons.mpr ⟨in_gw 245 (by decide +kernel) rfl, fun _ h => absurd h List.not_mem_nil⟩⟩⟩⟩
theorem ji_Slot : Cond.initialized R_Slot ∈ gw := in_gw 67 (by decide +kernel) rfl
theorem in_Phrase : ∀ w ∈ u_ws R_Phrase F_Phrase 3, w ∈ gw :=
  show ∀ w ∈ [u_lay R_Phrase F_Phrase 0, u_lay R_Phrase F_Phrase 1, u_lay R_Phrase F_Phrase 2], w ∈ gw from List.forall_mem_cons.mpr ⟨in_gw 208 (by decide +kernel) rfl, List.forall_mem_cons.mpr ⟨in_gw 210 (by decide +kernel) rfl, List.forall_mem_cons.mpr ⟨in_gw 212 (by decide +kernel) rfl, fun _ h => absurd h List.not_mem_nil⟩⟩⟩
theorem ji_Phrase : Cond.initialized R_Phrase ∈ gw := in_gw 65 (by decide +kernel) rfl
theorem in_Things : ∀ w ∈ u_ws R_Things F_Things 8, w ∈ gw :=
  show ∀ w ∈ [u_lay R_Things F_Things 0, u_lay R_Things F_Things 1, u_lay R_Things F_Things 2, u_lay R_Things F_Things 3, u_lay R_Things F_Things 4, u_lay R_Things F_Things 5, u_lay R_Things F_Things 6, u_lay R_Things F_Things 7], w ∈ gw from List.forall_mem_cons.mpr ⟨in_gw 95 (by decide +kernel) rfl, List.forall_mem_cons.mpr ⟨in_gw 97 (by decide +kernel) rfl, List.forall_mem_cons.mpr ⟨in_gw 99 (by decide +kernel) rfl, List.forall_mem_cons.mpr ⟨in_gw 101 (by decide +kernel) rfl, List.forall_mem_cons.mpr ⟨in_gw 103 (by decide +kernel) rfl, List.forall_mem_cons.mpr ⟨in_gw 105 (by decide +kernel) rfl, List.forall_mem_cons.mpr ⟨in_gw 107 (by decide +kernel) rfl, List.forall_mem_cons.mpr ⟨in_gw 109 (by decide +kernel) rfl, fun _ h => absurd h List.not_mem_nil⟩⟩⟩⟩⟩⟩⟩⟩
theorem ji_Things : Cond.initialized R_Things ∈ gw := in_gw 59 (by decide +kernel) rfl
theorem in_Verbs : ∀ w ∈ u_ws R_Verbs F_Verbs 3, w ∈ gw :=
  show ∀ w ∈ [u_lay R_Verbs F_Verbs 0, u_lay R_Verbs F_Verbs 1, u_lay R_Verbs F_Verbs 2], w ∈ gw from List.forall_mem_cons.mpr ⟨in_gw 138 (by decide +kernel) rfl, List.forall_mem_cons.mpr ⟨in_gw 140 (by decide +kernel) rfl, List.forall_mem_cons.mpr ⟨in_gw 142 (by decide +kernel) rfl, fun _ h => absurd h List.not_mem_nil⟩⟩⟩
theorem ji_Verbs : Cond.initialized R_Verbs ∈ gw := in_gw 60 (by decide +kernel) rfl
theorem in_Lines : ∀ w ∈ u_ws R_Lines F_Lines 7, w ∈ gw :=
  show ∀ w ∈ [u_lay R_Lines F_Lines 0, u_lay R_Lines F_Lines 1, u_lay R_Lines F_Lines 2, u_lay R_Lines F_Lines 3, u_lay R_Lines F_Lines 4, u_lay R_Lines F_Lines 5, u_lay R_Lines F_Lines 6], w ∈ gw from List.forall_mem_cons.mpr ⟨in_gw 158 (by decide +kernel) rfl, List.forall_mem_cons.mpr ⟨in_gw 160 (by decide +kernel) rfl, List.forall_mem_cons.mpr ⟨in_gw 162 (by decide +kernel) rfl, List.forall_mem_cons.mpr ⟨in_gw 164 (by decide +kernel) rfl, List.forall_mem_cons.mpr ⟨in_gw 166 (by decide +kernel) rfl, List.forall_mem_cons.mpr ⟨in_gw 168 (by decide +kernel) rfl, List.forall_mem_cons.mpr ⟨in_gw 170 (by decide +kernel) rfl, fun _ h => absurd h List.not_mem_nil⟩⟩⟩⟩⟩⟩⟩
theorem ji_Lines : Cond.initialized R_Lines ∈ gw := in_gw 63 (by decide +kernel) rfl
theorem in_Values : ∀ w ∈ u_ws R_Values F_Values 3, w ∈ gw :=
  show ∀ w ∈ [u_lay R_Values F_Values 0, u_lay R_Values F_Values 1, u_lay R_Values F_Values 2], w ∈ gw from List.forall_mem_cons.mpr ⟨in_gw 185 (by decide +kernel) rfl, List.forall_mem_cons.mpr ⟨in_gw 187 (by decide +kernel) rfl, List.forall_mem_cons.mpr ⟨in_gw 189 (by decide +kernel) rfl, fun _ h => absurd h List.not_mem_nil⟩⟩⟩
theorem ji_Values : Cond.initialized R_Values ∈ gw := in_gw 64 (by decide +kernel) rfl
theorem in_Trial : ∀ w ∈ u_ws R_Trial F_Trial 13, w ∈ gw :=
  show ∀ w ∈ [u_lay R_Trial F_Trial 0, u_lay R_Trial F_Trial 1, u_lay R_Trial F_Trial 2, u_lay R_Trial F_Trial 3, u_lay R_Trial F_Trial 4, u_lay R_Trial F_Trial 5, u_lay R_Trial F_Trial 6, u_lay R_Trial F_Trial 7, u_lay R_Trial F_Trial 8, u_lay R_Trial F_Trial 9, u_lay R_Trial F_Trial 10, u_lay R_Trial F_Trial 11, u_lay R_Trial F_Trial 12], w ∈ gw from List.forall_mem_cons.mpr ⟨in_gw 273 (by decide +kernel) rfl, List.forall_mem_cons.mpr ⟨in_gw 275 (by decide +kernel) rfl, List.forall_mem_cons.mpr ⟨in_gw 277 (by decide +kernel) rfl, List.forall_mem_cons.mpr ⟨in_gw 279 (by decide +kernel) rfl, List.forall_mem_cons.mpr ⟨in_gw 281 (by decide +kernel) rfl, List.forall_mem_cons.mpr ⟨in_gw 283 (by decide +kernel) rfl, List.forall_mem_cons.mpr ⟨in_gw 285 (by decide +kernel) rfl, List.forall_mem_cons.mpr ⟨in_gw 287 (by decide +kernel) rfl, List.forall_mem_cons.mpr ⟨in_gw 289 (by decide +kernel) rfl, List.forall_mem_cons.mpr ⟨in_gw 291 (by decide +kernel) rfl, List.forall_mem_cons.mpr ⟨in_gw 293 (by decide +kernel) rfl, List.forall_mem_cons.mpr ⟨in_gw 295 (by decide +kernel) rfl, List.forall_mem_cons.mpr ⟨in_gw 297 (by decide +kernel) rfl, fun _ h => absurd h List.not_mem_nil⟩⟩⟩⟩⟩⟩⟩⟩⟩⟩⟩⟩⟩
theorem ji_Trial : Cond.initialized R_Trial ∈ gw := in_gw 66 (by decide +kernel) rfl
theorem in_Report : ∀ w ∈ u_ws R_Report F_Report 9, w ∈ gw :=
  show ∀ w ∈ [u_lay R_Report F_Report 0, u_lay R_Report F_Report 1, u_lay R_Report F_Report 2, u_lay R_Report F_Report 3, u_lay R_Report F_Report 4, u_lay R_Report F_Report 5, u_lay R_Report F_Report 6, u_lay R_Report F_Report 7, u_lay R_Report F_Report 8], w ∈ gw from List.forall_mem_cons.mpr ⟨in_gw 326 (by decide +kernel) rfl, List.forall_mem_cons.mpr ⟨in_gw 328 (by decide +kernel) rfl, List.forall_mem_cons.mpr ⟨in_gw 330 (by decide +kernel) rfl, List.forall_mem_cons.mpr ⟨in_gw 332 (by decide +kernel) rfl, List.forall_mem_cons.mpr ⟨in_gw 334 (by decide +kernel) rfl, List.forall_mem_cons.mpr ⟨in_gw 336 (by decide +kernel) rfl, List.forall_mem_cons.mpr ⟨in_gw 338 (by decide +kernel) rfl, List.forall_mem_cons.mpr ⟨in_gw 340 (by decide +kernel) rfl, List.forall_mem_cons.mpr ⟨in_gw 342 (by decide +kernel) rfl, fun _ h => absurd h List.not_mem_nil⟩⟩⟩⟩⟩⟩⟩⟩⟩
theorem ji_Report : Cond.initialized R_Report ∈ gw := in_gw 68 (by decide +kernel) rfl
theorem in_G : ∀ w ∈ u_ws R_G F_G 13, w ∈ gw :=
  show ∀ w ∈ [u_lay R_G F_G 0, u_lay R_G F_G 1, u_lay R_G F_G 2, u_lay R_G F_G 3, u_lay R_G F_G 4, u_lay R_G F_G 5, u_lay R_G F_G 6, u_lay R_G F_G 7, u_lay R_G F_G 8, u_lay R_G F_G 9, u_lay R_G F_G 10, u_lay R_G F_G 11, u_lay R_G F_G 12], w ∈ gw from List.forall_mem_cons.mpr ⟨in_gw 358 (by decide +kernel) rfl, List.forall_mem_cons.mpr ⟨in_gw 360 (by decide +kernel) rfl, List.forall_mem_cons.mpr ⟨in_gw 362 (by decide +kernel) rfl, List.forall_mem_cons.mpr ⟨in_gw 364 (by decide +kernel) rfl, List.forall_mem_cons.mpr ⟨in_gw 366 (by decide +kernel) rfl, List.forall_mem_cons.mpr ⟨in_gw 368 (by decide +kernel) rfl, List.forall_mem_cons.mpr ⟨in_gw 370 (by decide +kernel) rfl, List.forall_mem_cons.mpr ⟨in_gw 372 (by decide +kernel) rfl, List.forall_mem_cons.mpr ⟨in_gw 374 (by decide +kernel) rfl, List.forall_mem_cons.mpr ⟨in_gw 376 (by decide +kernel) rfl, List.forall_mem_cons.mpr ⟨in_gw 378 (by decide +kernel) rfl, List.forall_mem_cons.mpr ⟨in_gw 380 (by decide +kernel) rfl, List.forall_mem_cons.mpr ⟨in_gw 382 (by decide +kernel) rfl, fun _ h => absurd h List.not_mem_nil⟩⟩⟩⟩⟩⟩⟩⟩⟩⟩⟩⟩⟩
theorem ji_G : Cond.initialized R_G ∈ gw := in_gw 58 (by decide +kernel) rfl
theorem in_M : ∀ w ∈ u_ws R_M F_M 56, w ∈ gw :=
  show ∀ w ∈ [u_lay R_M F_M 0, u_lay R_M F_M 1, u_lay R_M F_M 2, u_lay R_M F_M 3, u_lay R_M F_M 4, u_lay R_M F_M 5, u_lay R_M F_M 6, u_lay R_M F_M 7, u_lay R_M F_M 8, u_lay R_M F_M 9, u_lay R_M F_M 10, u_lay R_M F_M 11, u_lay R_M F_M 12, u_lay R_M F_M 13, u_lay R_M F_M 14, u_lay R_M F_M 15, u_lay R_M F_M 16, u_lay R_M F_M 17, u_lay R_M F_M 18, u_lay R_M F_M 19, u_lay R_M F_M 20, u_lay R_M F_M 21, u_lay R_M F_M 22, u_lay R_M F_M 23, u_lay R_M F_M 24, u_lay R_M F_M 25, u_lay R_M F_M 26, u_lay R_M F_M 27, u_lay R_M F_M 28, u_lay R_M F_M 29, u_lay R_M F_M 30, u_lay R_M F_M 31, u_lay R_M F_M 32, u_lay R_M F_M 33, u_lay R_M F_M 34, u_lay R_M F_M 35, u_lay R_M F_M 36, u_lay R_M F_M 37, u_lay R_M F_M 38, u_lay R_M F_M 39, u_lay R_M F_M 40, u_lay R_M F_M 41, u_lay R_M F_M 42, u_lay R_M F_M 43, u_lay R_M F_M 44, u_lay R_M F_M 45, u_lay R_M F_M 46, u_lay R_M F_M 47, u_lay R_M F_M 48, u_lay R_M F_M 49, u_lay R_M F_M 50, u_lay R_M F_M 51, u_lay R_M F_M 52, u_lay R_M F_M 53, u_lay R_M F_M 54, u_lay R_M F_M 55], w ∈ gw from List.forall_mem_cons.mpr ⟨in_gw 902 (by decide +kernel) rfl, List.forall_mem_cons.mpr ⟨in_gw 904 (by decide +kernel) rfl, List.forall_mem_cons.mpr ⟨in_gw 906 (by decide +kernel) rfl, List.forall_mem_cons.mpr ⟨in_gw 908 (by decide +kernel) rfl, List.forall_mem_cons.mpr ⟨in_gw 910 (by decide +kernel) rfl, List.forall_mem_cons.mpr ⟨in_gw 912 (by decide +kernel) rfl, List.forall_mem_cons.mpr ⟨in_gw 914 (by decide +kernel) rfl, List.forall_mem_cons.mpr ⟨in_gw 916 (by decide +kernel) rfl, List.forall_mem_cons.mpr ⟨in_gw 918 (by decide +kernel) rfl, List.forall_mem_cons.mpr ⟨in_gw 920 (by decide +kernel) rfl, List.forall_mem_cons.mpr ⟨in_gw 922 (by decide +kernel) rfl, List.forall_mem_cons.mpr ⟨in_gw 924 (by decide +kernel) rfl, List.forall_mem_cons.mpr ⟨in_gw 926 (by decide +kernel) rfl, List.forall_mem_cons.mpr ⟨in_gw 928 (by decide +kernel) rfl, List.forall_mem_cons.mpr ⟨in_gw 930 (by decide +kernel) rfl, List.forall_mem_cons.mpr ⟨in_gw 932 (by decide +kernel) rfl, List.forall_mem_cons.mpr ⟨in_gw 934 (by decide +kernel) rfl, List.forall_mem_cons.mpr ⟨in_gw 936 (by decide +kernel) rfl, List.forall_mem_cons.mpr ⟨in_gw 938 (by decide +kernel) rfl, List.forall_mem_cons.mpr ⟨in_gw 940 (by decide +kernel) rfl, List.forall_mem_cons.mpr ⟨in_gw 942 (by decide +kernel) rfl, List.forall_mem_cons.mpr ⟨in_gw 944 (by decide +kernel) rfl, List.forall_mem_cons.mpr ⟨in_gw 946 (by decide +kernel) rfl, List.forall_mem_cons.mpr ⟨in_gw 948 (by decide +kernel) rfl, List.forall_mem_cons.mpr ⟨in_gw 950 (by decide +kernel) rfl, List.forall_mem_cons.mpr ⟨in_gw 952 (by decide +kernel) rfl, List.forall_mem_cons.mpr ⟨in_gw 954 (by decide +kernel) rfl, List.forall_mem_cons.mpr ⟨in_gw 956 (by decide +kernel) rfl, List.forall_mem_cons.mpr ⟨in_gw 958 (by decide +kernel) rfl, List.forall_mem_cons.mpr ⟨in_gw 960 (by decide +kernel) rfl, List.forall_mem_cons.mpr ⟨in_gw 962 (by decide +kernel) rfl, List.forall_mem_cons.mpr ⟨in_gw 964 (by decide +kernel) rfl, List.forall_mem_cons.mpr ⟨in_gw 966 (by decide +kernel) rfl, List.forall_mem_cons.mpr ⟨in_gw 968 (by decide +kernel) rfl, List.forall_mem_cons.mpr ⟨in_gw 970 (by decide +kernel) rfl, List.forall_mem_cons.mpr ⟨in_gw 972 (by decide +kernel) rfl, List.forall_mem_cons.mpr ⟨in_gw 974 (by decide +kernel) rfl, List.forall_mem_cons.mpr ⟨in_gw 976 (by decide +kernel) rfl, List.forall_mem_cons.mpr ⟨in_gw 978 (by decide +kernel) rfl, List.forall_mem_cons.mpr ⟨in_gw 980 (by decide +kernel) rfl, List.forall_mem_cons.mpr ⟨in_gw 982 (by decide +kernel) rfl, List.forall_mem_cons.mpr ⟨in_gw 984 (by decide +kernel) rfl, List.forall_mem_cons.mpr ⟨in_gw 986 (by decide +kernel) rfl, List.forall_mem_cons.mpr ⟨in_gw 988 (by decide +kernel) rfl, List.forall_mem_cons.mpr ⟨in_gw 990 (by decide +kernel) rfl, List.forall_mem_cons.mpr ⟨in_gw 992 (by decide +kernel) rfl, List.forall_mem_cons.mpr ⟨in_gw 994 (by decide +kernel) rfl, List.forall_mem_cons.mpr ⟨in_gw 996 (by decide +kernel) rfl, List.forall_mem_cons.mpr ⟨in_gw 998 (by decide +kernel) rfl, List.forall_mem_cons.mpr ⟨in_gw 1000 (by decide +kernel) rfl, List.forall_mem_cons.mpr ⟨in_gw 1002 (by decide +kernel) rfl, List.forall_mem_cons.mpr ⟨in_gw 1004 (by decide +kernel) rfl, List.forall_mem_cons.mpr ⟨in_gw 1006 (by decide +kernel) rfl, List.forall_mem_cons.mpr ⟨in_gw 1008 (by decide +kernel) rfl, List.forall_mem_cons.mpr ⟨in_gw 1010 (by decide +kernel) rfl, List.forall_mem_cons.mpr ⟨in_gw 1012 (by decide +kernel) rfl, fun _ h => absurd h List.not_mem_nil⟩⟩⟩⟩⟩⟩⟩⟩⟩⟩⟩⟩⟩⟩⟩⟩⟩⟩⟩⟩⟩⟩⟩⟩⟩⟩⟩⟩⟩⟩⟩⟩⟩⟩⟩⟩⟩⟩⟩⟩⟩⟩⟩⟩⟩⟩⟩⟩⟩⟩⟩⟩⟩⟩⟩⟩
theorem ji_M : Cond.initialized R_M ∈ gw := in_gw 69 (by decide +kernel) rfl
theorem kc_G_isPlainWord : Cond.code y_G_isPlainWord b_G_isPlainWord 1 (some .boolean) ∈ gw := in_gw 395 (by decide +kernel) rfl
theorem ks_G_isPlainWord : Cond.static y_G_isPlainWord ∈ gw := in_gw 394 (by decide +kernel) rfl
theorem kc_Row_size : Cond.code y_Row_size b_Row_size 1 (some .int) ∈ gw := in_gw 403 (by decide +kernel) rfl
theorem ki_Row_size : Cond.instanceMethod y_Row_size ∈ gw := in_gw 401 (by decide +kernel) rfl
theorem kl_Row_size : Cond.selects R_Row y_Row_size y_Row_size ∈ gw := in_gw 402 (by decide +kernel) rfl
theorem kc_Row_at : Cond.code y_Row_at b_Row_at 2 (some .int) ∈ gw := in_gw 407 (by decide +kernel) rfl
theorem ki_Row_at : Cond.instanceMethod y_Row_at ∈ gw := in_gw 405 (by decide +kernel) rfl
theorem kl_Row_at : Cond.selects R_Row y_Row_at y_Row_at ∈ gw := in_gw 406 (by decide +kernel) rfl
theorem kc_Verbs_find : Cond.code y_Verbs_find b_Verbs_find 3 (some .int) ∈ gw := in_gw 399 (by decide +kernel) rfl
theorem ki_Verbs_find : Cond.instanceMethod y_Verbs_find ∈ gw := in_gw 397 (by decide +kernel) rfl
theorem kl_Verbs_find : Cond.selects R_Verbs y_Verbs_find y_Verbs_find ∈ gw := in_gw 398 (by decide +kernel) rfl
theorem kc_G_mayBeVerbWord : Cond.code y_G_mayBeVerbWord b_G_mayBeVerbWord 2 (some .boolean) ∈ gw := in_gw 392 (by decide +kernel) rfl
theorem ki_G_mayBeVerbWord : Cond.instanceMethod y_G_mayBeVerbWord ∈ gw := in_gw 391 (by decide +kernel) rfl
theorem kl_G_mayBeVerbWord : Cond.selects R_G y_G_mayBeVerbWord y_G_mayBeVerbWord ∈ gw := in_gw 0 (by decide +kernel) rfl
theorem kc_Verbs_isFull : Cond.code y_Verbs_isFull b_Verbs_isFull 1 (some .boolean) ∈ gw := in_gw 411 (by decide +kernel) rfl
theorem ki_Verbs_isFull : Cond.instanceMethod y_Verbs_isFull ∈ gw := in_gw 409 (by decide +kernel) rfl
theorem kl_Verbs_isFull : Cond.selects R_Verbs y_Verbs_isFull y_Verbs_isFull ∈ gw := in_gw 410 (by decide +kernel) rfl
theorem kc_Verbs_hasAllWords : Cond.code y_Verbs_hasAllWords b_Verbs_hasAllWords 1 (some .boolean) ∈ gw := in_gw 415 (by decide +kernel) rfl
theorem ki_Verbs_hasAllWords : Cond.instanceMethod y_Verbs_hasAllWords ∈ gw := in_gw 413 (by decide +kernel) rfl
theorem kl_Verbs_hasAllWords : Cond.selects R_Verbs y_Verbs_hasAllWords y_Verbs_hasAllWords ∈ gw := in_gw 414 (by decide +kernel) rfl
theorem kc_Row_add : Cond.code y_Row_add b_Row_add 2 none ∈ gw := in_gw 427 (by decide +kernel) rfl
theorem ki_Row_add : Cond.instanceMethod y_Row_add ∈ gw := in_gw 425 (by decide +kernel) rfl
theorem kl_Row_add : Cond.selects R_Row y_Row_add y_Row_add ∈ gw := in_gw 426 (by decide +kernel) rfl
theorem kc_Verbs_addWord : Cond.code y_Verbs_addWord b_Verbs_addWord 5 (some .int) ∈ gw := in_gw 423 (by decide +kernel) rfl
theorem ki_Verbs_addWord : Cond.instanceMethod y_Verbs_addWord ∈ gw := in_gw 421 (by decide +kernel) rfl
theorem kl_Verbs_addWord : Cond.selects R_Verbs y_Verbs_addWord y_Verbs_addWord ∈ gw := in_gw 422 (by decide +kernel) rfl
theorem kc_Verbs_add : Cond.code y_Verbs_add b_Verbs_add 2 (some .int) ∈ gw := in_gw 419 (by decide +kernel) rfl
theorem ki_Verbs_add : Cond.instanceMethod y_Verbs_add ∈ gw := in_gw 417 (by decide +kernel) rfl
theorem kl_Verbs_add : Cond.selects R_Verbs y_Verbs_add y_Verbs_add ∈ gw := in_gw 418 (by decide +kernel) rfl
theorem kc_G_verb : Cond.code y_G_verb b_G_verb 2 (some .int) ∈ gw := in_gw 388 (by decide +kernel) rfl
theorem ki_G_verb : Cond.instanceMethod y_G_verb ∈ gw := in_gw 386 (by decide +kernel) rfl
theorem kl_G_verb : Cond.selects R_G y_G_verb y_G_verb ∈ gw := in_gw 387 (by decide +kernel) rfl
theorem kc_Verbs_has : Cond.code y_Verbs_has b_Verbs_has 2 (some .boolean) ∈ gw := in_gw 435 (by decide +kernel) rfl
theorem ki_Verbs_has : Cond.instanceMethod y_Verbs_has ∈ gw := in_gw 433 (by decide +kernel) rfl
theorem kl_Verbs_has : Cond.selects R_Verbs y_Verbs_has y_Verbs_has ∈ gw := in_gw 434 (by decide +kernel) rfl
theorem kc_G_like : Cond.code y_G_like b_G_like 3 (some .int) ∈ gw := in_gw 431 (by decide +kernel) rfl
theorem ki_G_like : Cond.instanceMethod y_G_like ∈ gw := in_gw 429 (by decide +kernel) rfl
theorem kl_G_like : Cond.selects R_G y_G_like y_G_like ∈ gw := in_gw 430 (by decide +kernel) rfl
theorem kc_Lines_isFull : Cond.code y_Lines_isFull b_Lines_isFull 1 (some .boolean) ∈ gw := in_gw 444 (by decide +kernel) rfl
theorem ki_Lines_isFull : Cond.instanceMethod y_Lines_isFull ∈ gw := in_gw 442 (by decide +kernel) rfl
theorem kl_Lines_isFull : Cond.selects R_Lines y_Lines_isFull y_Lines_isFull ∈ gw := in_gw 443 (by decide +kernel) rfl
theorem kc_Lines_add : Cond.code y_Lines_add b_Lines_add 4 (some .int) ∈ gw := in_gw 448 (by decide +kernel) rfl
theorem ki_Lines_add : Cond.instanceMethod y_Lines_add ∈ gw := in_gw 446 (by decide +kernel) rfl
theorem kl_Lines_add : Cond.selects R_Lines y_Lines_add y_Lines_add ∈ gw := in_gw 447 (by decide +kernel) rfl
theorem kc_G_line : Cond.code y_G_line b_G_line 4 (some .int) ∈ gw := in_gw 440 (by decide +kernel) rfl
theorem ki_G_line : Cond.instanceMethod y_G_line ∈ gw := in_gw 438 (by decide +kernel) rfl
theorem kl_G_line : Cond.selects R_G y_G_line y_G_line ∈ gw := in_gw 439 (by decide +kernel) rfl
theorem kc_Lines_has : Cond.code y_Lines_has b_Lines_has 2 (some .boolean) ∈ gw := in_gw 457 (by decide +kernel) rfl
theorem ki_Lines_has : Cond.instanceMethod y_Lines_has ∈ gw := in_gw 455 (by decide +kernel) rfl
theorem kl_Lines_has : Cond.selects R_Lines y_Lines_has y_Lines_has ∈ gw := in_gw 456 (by decide +kernel) rfl
theorem kc_G_mayBeToken : Cond.code y_G_mayBeToken b_G_mayBeToken 2 (some .boolean) ∈ gw := in_gw 460 (by decide +kernel) rfl
theorem ks_G_mayBeToken : Cond.static y_G_mayBeToken ∈ gw := in_gw 459 (by decide +kernel) rfl
theorem kc_Lines_kindsOf : Cond.code y_Lines_kindsOf b_Lines_kindsOf 2 (some .int) ∈ gw := in_gw 468 (by decide +kernel) rfl
theorem ki_Lines_kindsOf : Cond.instanceMethod y_Lines_kindsOf ∈ gw := in_gw 466 (by decide +kernel) rfl
theorem kl_Lines_kindsOf : Cond.selects R_Lines y_Lines_kindsOf y_Lines_kindsOf ∈ gw := in_gw 467 (by decide +kernel) rfl
theorem kc_Lines_kindAt : Cond.code y_Lines_kindAt b_Lines_kindAt 3 (some .int) ∈ gw := in_gw 473 (by decide +kernel) rfl
theorem ki_Lines_kindAt : Cond.instanceMethod y_Lines_kindAt ∈ gw := in_gw 471 (by decide +kernel) rfl
theorem kl_Lines_kindAt : Cond.selects R_Lines y_Lines_kindAt y_Lines_kindAt ∈ gw := in_gw 472 (by decide +kernel) rfl
theorem kc_G_isSlot : Cond.code y_G_isSlot b_G_isSlot 1 (some .boolean) ∈ gw := in_gw 476 (by decide +kernel) rfl
theorem ks_G_isSlot : Cond.static y_G_isSlot ∈ gw := in_gw 475 (by decide +kernel) rfl
theorem kc_Lines_slotsOf : Cond.code y_Lines_slotsOf b_Lines_slotsOf 4 (some .int) ∈ gw := in_gw 480 (by decide +kernel) rfl
theorem ki_Lines_slotsOf : Cond.instanceMethod y_Lines_slotsOf ∈ gw := in_gw 478 (by decide +kernel) rfl
theorem kl_Lines_slotsOf : Cond.selects R_Lines y_Lines_slotsOf y_Lines_slotsOf ∈ gw := in_gw 479 (by decide +kernel) rfl
theorem kc_Lines_allows : Cond.code y_Lines_allows b_Lines_allows 4 (some .boolean) ∈ gw := in_gw 464 (by decide +kernel) rfl
theorem ki_Lines_allows : Cond.instanceMethod y_Lines_allows ∈ gw := in_gw 462 (by decide +kernel) rfl
theorem kl_Lines_allows : Cond.selects R_Lines y_Lines_allows y_Lines_allows ∈ gw := in_gw 463 (by decide +kernel) rfl
theorem kc_Lines_addKind : Cond.code y_Lines_addKind b_Lines_addKind 5 (some .int) ∈ gw := in_gw 485 (by decide +kernel) rfl
theorem ki_Lines_addKind : Cond.instanceMethod y_Lines_addKind ∈ gw := in_gw 483 (by decide +kernel) rfl
theorem kl_Lines_addKind : Cond.selects R_Lines y_Lines_addKind y_Lines_addKind ∈ gw := in_gw 484 (by decide +kernel) rfl
theorem kc_G_token : Cond.code y_G_token b_G_token 4 (some .int) ∈ gw := in_gw 453 (by decide +kernel) rfl
theorem ki_G_token : Cond.instanceMethod y_G_token ∈ gw := in_gw 451 (by decide +kernel) rfl
theorem kl_G_token : Cond.selects R_G y_G_token y_G_token ∈ gw := in_gw 452 (by decide +kernel) rfl
theorem kc_G_mayBeFlags : Cond.code y_G_mayBeFlags b_G_mayBeFlags 1 (some .boolean) ∈ gw := in_gw 492 (by decide +kernel) rfl
theorem ks_G_mayBeFlags : Cond.static y_G_mayBeFlags ∈ gw := in_gw 491 (by decide +kernel) rfl
theorem kc_Things_isFull : Cond.code y_Things_isFull b_Things_isFull 1 (some .boolean) ∈ gw := in_gw 496 (by decide +kernel) rfl
theorem ki_Things_isFull : Cond.instanceMethod y_Things_isFull ∈ gw := in_gw 494 (by decide +kernel) rfl
theorem kl_Things_isFull : Cond.selects R_Things y_Things_isFull y_Things_isFull ∈ gw := in_gw 495 (by decide +kernel) rfl
theorem kc_Things_has : Cond.code y_Things_has b_Things_has 2 (some .boolean) ∈ gw := in_gw 509 (by decide +kernel) rfl
theorem ki_Things_has : Cond.instanceMethod y_Things_has ∈ gw := in_gw 507 (by decide +kernel) rfl
theorem kl_Things_has : Cond.selects R_Things y_Things_has y_Things_has ∈ gw := in_gw 508 (by decide +kernel) rfl
theorem kc_Things_withAnyOf : Cond.code y_Things_withAnyOf b_Things_withAnyOf 5 (some .long) ∈ gw := in_gw 513 (by decide +kernel) rfl
theorem ki_Things_withAnyOf : Cond.instanceMethod y_Things_withAnyOf ∈ gw := in_gw 512 (by decide +kernel) rfl
theorem kl_Things_withAnyOf : Cond.selects R_Things y_Things_withAnyOf y_Things_withAnyOf ∈ gw := in_gw 1 (by decide +kernel) rfl
theorem kc_Things_changeFlags : Cond.code y_Things_changeFlags b_Things_changeFlags 4 (some .int) ∈ gw := in_gw 505 (by decide +kernel) rfl
theorem ki_Things_changeFlags : Cond.instanceMethod y_Things_changeFlags ∈ gw := in_gw 503 (by decide +kernel) rfl
theorem kl_Things_changeFlags : Cond.selects R_Things y_Things_changeFlags y_Things_changeFlags ∈ gw := in_gw 504 (by decide +kernel) rfl
theorem kc_Things_add : Cond.code y_Things_add b_Things_add 2 (some .int) ∈ gw := in_gw 500 (by decide +kernel) rfl
theorem ki_Things_add : Cond.instanceMethod y_Things_add ∈ gw := in_gw 498 (by decide +kernel) rfl
theorem kl_Things_add : Cond.selects R_Things y_Things_add y_Things_add ∈ gw := in_gw 499 (by decide +kernel) rfl
theorem kc_G_thing : Cond.code y_G_thing b_G_thing 2 (some .int) ∈ gw := in_gw 489 (by decide +kernel) rfl
theorem ki_G_thing : Cond.instanceMethod y_G_thing ∈ gw := in_gw 487 (by decide +kernel) rfl
theorem kl_G_thing : Cond.selects R_G y_G_thing y_G_thing ∈ gw := in_gw 488 (by decide +kernel) rfl
theorem kc_Things_isNamed : Cond.code y_Things_isNamed b_Things_isNamed 4 (some .boolean) ∈ gw := in_gw 522 (by decide +kernel) rfl
theorem ki_Things_isNamed : Cond.instanceMethod y_Things_isNamed ∈ gw := in_gw 520 (by decide +kernel) rfl
theorem kl_Things_isNamed : Cond.selects R_Things y_Things_isNamed y_Things_isNamed ∈ gw := in_gw 521 (by decide +kernel) rfl
theorem kc_Things_namesOf : Cond.code y_Things_namesOf b_Things_namesOf 2 (some .int) ∈ gw := in_gw 526 (by decide +kernel) rfl
theorem ki_Things_namesOf : Cond.instanceMethod y_Things_namesOf ∈ gw := in_gw 524 (by decide +kernel) rfl
theorem kl_Things_namesOf : Cond.selects R_Things y_Things_namesOf y_Things_namesOf ∈ gw := in_gw 525 (by decide +kernel) rfl
theorem kc_Things_addName : Cond.code y_Things_addName b_Things_addName 3 (some .int) ∈ gw := in_gw 530 (by decide +kernel) rfl
theorem ki_Things_addName : Cond.instanceMethod y_Things_addName ∈ gw := in_gw 528 (by decide +kernel) rfl
theorem kl_Things_addName : Cond.selects R_Things y_Things_addName y_Things_addName ∈ gw := in_gw 529 (by decide +kernel) rfl
theorem kc_G_name : Cond.code y_G_name b_G_name 3 (some .int) ∈ gw := in_gw 517 (by decide +kernel) rfl
theorem ki_G_name : Cond.instanceMethod y_G_name ∈ gw := in_gw 515 (by decide +kernel) rfl
theorem kl_G_name : Cond.selects R_G y_G_name y_G_name ∈ gw := in_gw 516 (by decide +kernel) rfl
theorem kc_G_flags : Cond.code y_G_flags b_G_flags 3 (some .int) ∈ gw := in_gw 536 (by decide +kernel) rfl
theorem ki_G_flags : Cond.instanceMethod y_G_flags ∈ gw := in_gw 534 (by decide +kernel) rfl
theorem kl_G_flags : Cond.selects R_G y_G_flags y_G_flags ∈ gw := in_gw 535 (by decide +kernel) rfl
theorem kc_Values_indexOf : Cond.code y_Values_indexOf b_Values_indexOf 4 (some .int) ∈ gw := in_gw 549 (by decide +kernel) rfl
theorem ki_Values_indexOf : Cond.instanceMethod y_Values_indexOf ∈ gw := in_gw 548 (by decide +kernel) rfl
theorem kl_Values_indexOf : Cond.selects R_Values y_Values_indexOf y_Values_indexOf ∈ gw := in_gw 2 (by decide +kernel) rfl
theorem kc_Values_find : Cond.code y_Values_find b_Values_find 3 (some .int) ∈ gw := in_gw 545 (by decide +kernel) rfl
theorem ki_Values_find : Cond.instanceMethod y_Values_find ∈ gw := in_gw 543 (by decide +kernel) rfl
theorem kl_Values_find : Cond.selects R_Values y_Values_find y_Values_find ∈ gw := in_gw 544 (by decide +kernel) rfl
theorem kc_Row_put : Cond.code y_Row_put b_Row_put 3 none ∈ gw := in_gw 564 (by decide +kernel) rfl
theorem ki_Row_put : Cond.instanceMethod y_Row_put ∈ gw := in_gw 562 (by decide +kernel) rfl
theorem kl_Row_put : Cond.selects R_Row y_Row_put y_Row_put ∈ gw := in_gw 563 (by decide +kernel) rfl
theorem kc_Values_count : Cond.code y_Values_count b_Values_count 1 (some .int) ∈ gw := in_gw 555 (by decide +kernel) rfl
theorem ki_Values_count : Cond.instanceMethod y_Values_count ∈ gw := in_gw 553 (by decide +kernel) rfl
theorem kl_Values_count : Cond.selects R_Values y_Values_count y_Values_count ∈ gw := in_gw 554 (by decide +kernel) rfl
theorem kc_Values_put : Cond.code y_Values_put b_Values_put 5 (some .int) ∈ gw := in_gw 559 (by decide +kernel) rfl
theorem ki_Values_put : Cond.instanceMethod y_Values_put ∈ gw := in_gw 557 (by decide +kernel) rfl
theorem kl_Values_put : Cond.selects R_Values y_Values_put y_Values_put ∈ gw := in_gw 558 (by decide +kernel) rfl
theorem kc_G_custom : Cond.code y_G_custom b_G_custom 5 (some .int) ∈ gw := in_gw 541 (by decide +kernel) rfl
theorem ki_G_custom : Cond.instanceMethod y_G_custom ∈ gw := in_gw 539 (by decide +kernel) rfl
theorem kl_G_custom : Cond.selects R_G y_G_custom y_G_custom ∈ gw := in_gw 540 (by decide +kernel) rfl
theorem kc_G_isWord : Cond.code y_G_isWord b_G_isWord 1 (some .boolean) ∈ gw := in_gw 572 (by decide +kernel) rfl
theorem ks_G_isWord : Cond.static y_G_isWord ∈ gw := in_gw 571 (by decide +kernel) rfl
theorem kc_G_word : Cond.code y_G_word b_G_word 2 (some .int) ∈ gw := in_gw 569 (by decide +kernel) rfl
theorem ki_G_word : Cond.instanceMethod y_G_word ∈ gw := in_gw 567 (by decide +kernel) rfl
theorem kl_G_word : Cond.selects R_G y_G_word y_G_word ∈ gw := in_gw 568 (by decide +kernel) rfl
theorem kc_Row_empty : Cond.code y_Row_empty b_Row_empty 1 none ∈ gw := in_gw 582 (by decide +kernel) rfl
theorem ki_Row_empty : Cond.instanceMethod y_Row_empty ∈ gw := in_gw 580 (by decide +kernel) rfl
theorem kl_Row_empty : Cond.selects R_Row y_Row_empty y_Row_empty ∈ gw := in_gw 581 (by decide +kernel) rfl
theorem kc_G_clear : Cond.code y_G_clear b_G_clear 2 (some .int) ∈ gw := in_gw 578 (by decide +kernel) rfl
theorem ki_G_clear : Cond.instanceMethod y_G_clear ∈ gw := in_gw 576 (by decide +kernel) rfl
theorem kl_G_clear : Cond.selects R_G y_G_clear y_G_clear ∈ gw := in_gw 577 (by decide +kernel) rfl
theorem kc_Things_namedOf : Cond.code y_Things_namedOf b_Things_namedOf 9 (some .long) ∈ gw := in_gw 600 (by decide +kernel) rfl
theorem ki_Things_namedOf : Cond.instanceMethod y_Things_namedOf ∈ gw := in_gw 598 (by decide +kernel) rfl
theorem kl_Things_namedOf : Cond.selects R_Things y_Things_namedOf y_Things_namedOf ∈ gw := in_gw 599 (by decide +kernel) rfl
theorem kc_Phrase_find : Cond.code y_Phrase_find b_Phrase_find 6 (some .boolean) ∈ gw := in_gw 594 (by decide +kernel) rfl
theorem ki_Phrase_find : Cond.instanceMethod y_Phrase_find ∈ gw := in_gw 592 (by decide +kernel) rfl
theorem kl_Phrase_find : Cond.selects R_Phrase y_Phrase_find y_Phrase_find ∈ gw := in_gw 593 (by decide +kernel) rfl
theorem kc_JLong_bitCount : Cond.code y_JLong_bitCount b_JLong_bitCount 2 (some .int) ∈ gw := in_gw 603 (by decide +kernel) rfl
theorem ks_JLong_bitCount : Cond.static y_JLong_bitCount ∈ gw := in_gw 602 (by decide +kernel) rfl
theorem kc_Row_dropFirst : Cond.code y_Row_dropFirst b_Row_dropFirst 4 none ∈ gw := in_gw 611 (by decide +kernel) rfl
theorem ki_Row_dropFirst : Cond.instanceMethod y_Row_dropFirst ∈ gw := in_gw 609 (by decide +kernel) rfl
theorem kl_Row_dropFirst : Cond.selects R_Row y_Row_dropFirst y_Row_dropFirst ∈ gw := in_gw 610 (by decide +kernel) rfl
theorem kc_Things_firstOf : Cond.code y_Things_firstOf b_Things_firstOf 4 (some .int) ∈ gw := in_gw 618 (by decide +kernel) rfl
theorem ki_Things_firstOf : Cond.instanceMethod y_Things_firstOf ∈ gw := in_gw 616 (by decide +kernel) rfl
theorem kl_Things_firstOf : Cond.selects R_Things y_Things_firstOf y_Things_firstOf ∈ gw := in_gw 617 (by decide +kernel) rfl
theorem kc_G_takeOrder : Cond.code y_G_takeOrder b_G_takeOrder 3 (some .int) ∈ gw := in_gw 590 (by decide +kernel) rfl
theorem ki_G_takeOrder : Cond.instanceMethod y_G_takeOrder ∈ gw := in_gw 589 (by decide +kernel) rfl
theorem kl_G_takeOrder : Cond.selects R_G y_G_takeOrder y_G_takeOrder ∈ gw := in_gw 3 (by decide +kernel) rfl
theorem kc_G_isJoin : Cond.code y_G_isJoin b_G_isJoin 1 (some .boolean) ∈ gw := in_gw 629 (by decide +kernel) rfl
theorem ks_G_isJoin : Cond.static y_G_isJoin ∈ gw := in_gw 628 (by decide +kernel) rfl
theorem kc_G_endsCommand : Cond.code y_G_endsCommand b_G_endsCommand 3 (some .boolean) ∈ gw := in_gw 626 (by decide +kernel) rfl
theorem ki_G_endsCommand : Cond.instanceMethod y_G_endsCommand ∈ gw := in_gw 625 (by decide +kernel) rfl
theorem kl_G_endsCommand : Cond.selects R_G y_G_endsCommand y_G_endsCommand ∈ gw := in_gw 5 (by decide +kernel) rfl
theorem kc_G_takeCommand : Cond.code y_G_takeCommand b_G_takeCommand 2 none ∈ gw := in_gw 622 (by decide +kernel) rfl
theorem ki_G_takeCommand : Cond.instanceMethod y_G_takeCommand ∈ gw := in_gw 621 (by decide +kernel) rfl
theorem kl_G_takeCommand : Cond.selects R_G y_G_takeCommand y_G_takeCommand ∈ gw := in_gw 4 (by decide +kernel) rfl
theorem kc_Row_become : Cond.code y_Row_become b_Row_become 3 none ∈ gw := in_gw 638 (by decide +kernel) rfl
theorem ki_Row_become : Cond.instanceMethod y_Row_become ∈ gw := in_gw 636 (by decide +kernel) rfl
theorem kl_Row_become : Cond.selects R_Row y_Row_become y_Row_become ∈ gw := in_gw 637 (by decide +kernel) rfl
theorem kc_G_chooseCommand : Cond.code y_G_chooseCommand b_G_chooseCommand 4 (some .int) ∈ gw := in_gw 633 (by decide +kernel) rfl
theorem ki_G_chooseCommand : Cond.instanceMethod y_G_chooseCommand ∈ gw := in_gw 632 (by decide +kernel) rfl
theorem kl_G_chooseCommand : Cond.selects R_G y_G_chooseCommand y_G_chooseCommand ∈ gw := in_gw 6 (by decide +kernel) rfl
theorem kc_Report_begin : Cond.code y_Report_begin b_Report_begin 1 none ∈ gw := in_gw 648 (by decide +kernel) rfl
theorem ki_Report_begin : Cond.instanceMethod y_Report_begin ∈ gw := in_gw 646 (by decide +kernel) rfl
theorem kl_Report_begin : Cond.selects R_Report y_Report_begin y_Report_begin ∈ gw := in_gw 647 (by decide +kernel) rfl
theorem kc_Report_fail : Cond.code y_Report_fail b_Report_fail 4 none ∈ gw := in_gw 785 (by decide +kernel) rfl
theorem ki_Report_fail : Cond.instanceMethod y_Report_fail ∈ gw := in_gw 783 (by decide +kernel) rfl
theorem kl_Report_fail : Cond.selects R_Report y_Report_fail y_Report_fail ∈ gw := in_gw 784 (by decide +kernel) rfl
theorem kc_Lines_count : Cond.code y_Lines_count b_Lines_count 1 (some .int) ∈ gw := in_gw 653 (by decide +kernel) rfl
theorem ki_Lines_count : Cond.instanceMethod y_Lines_count ∈ gw := in_gw 651 (by decide +kernel) rfl
theorem kl_Lines_count : Cond.selects R_Lines y_Lines_count y_Lines_count ∈ gw := in_gw 652 (by decide +kernel) rfl
theorem kc_Report_isAsked : Cond.code y_Report_isAsked b_Report_isAsked 1 (some .boolean) ∈ gw := in_gw 791 (by decide +kernel) rfl
theorem ki_Report_isAsked : Cond.instanceMethod y_Report_isAsked ∈ gw := in_gw 789 (by decide +kernel) rfl
theorem kl_Report_isAsked : Cond.selects R_Report y_Report_isAsked y_Report_isAsked ∈ gw := in_gw 790 (by decide +kernel) rfl
theorem kc_Lines_verbOf : Cond.code y_Lines_verbOf b_Lines_verbOf 2 (some .int) ∈ gw := in_gw 657 (by decide +kernel) rfl
theorem ki_Lines_verbOf : Cond.instanceMethod y_Lines_verbOf ∈ gw := in_gw 655 (by decide +kernel) rfl
theorem kl_Lines_verbOf : Cond.selects R_Lines y_Lines_verbOf y_Lines_verbOf ∈ gw := in_gw 656 (by decide +kernel) rfl
theorem kc_Slot_empty : Cond.code y_Slot_empty b_Slot_empty 1 none ∈ gw := in_gw 669 (by decide +kernel) rfl
theorem ki_Slot_empty : Cond.instanceMethod y_Slot_empty ∈ gw := in_gw 667 (by decide +kernel) rfl
theorem kl_Slot_empty : Cond.selects R_Slot y_Slot_empty y_Slot_empty ∈ gw := in_gw 668 (by decide +kernel) rfl
theorem kc_Trial_begin : Cond.code y_Trial_begin b_Trial_begin 2 none ∈ gw := in_gw 665 (by decide +kernel) rfl
theorem ki_Trial_begin : Cond.instanceMethod y_Trial_begin ∈ gw := in_gw 664 (by decide +kernel) rfl
theorem kl_Trial_begin : Cond.selects R_Trial y_Trial_begin y_Trial_begin ∈ gw := in_gw 8 (by decide +kernel) rfl
theorem kc_G_isOfOneThing : Cond.code y_G_isOfOneThing b_G_isOfOneThing 1 (some .boolean) ∈ gw := in_gw 734 (by decide +kernel) rfl
theorem ks_G_isOfOneThing : Cond.static y_G_isOfOneThing ∈ gw := in_gw 733 (by decide +kernel) rfl
theorem kc_Trial_fail : Cond.code y_Trial_fail b_Trial_fail 3 none ∈ gw := in_gw 686 (by decide +kernel) rfl
theorem ki_Trial_fail : Cond.instanceMethod y_Trial_fail ∈ gw := in_gw 685 (by decide +kernel) rfl
theorem kl_Trial_fail : Cond.selects R_Trial y_Trial_fail y_Trial_fail ∈ gw := in_gw 10 (by decide +kernel) rfl
theorem kc_Trial_takeOut : Cond.code y_Trial_takeOut b_Trial_takeOut 4 none ∈ gw := in_gw 772 (by decide +kernel) rfl
theorem ki_Trial_takeOut : Cond.instanceMethod y_Trial_takeOut ∈ gw := in_gw 771 (by decide +kernel) rfl
theorem kl_Trial_takeOut : Cond.selects R_Trial y_Trial_takeOut y_Trial_takeOut ∈ gw := in_gw 22 (by decide +kernel) rfl
theorem kc_Row_addThings : Cond.code y_Row_addThings b_Row_addThings 4 none ∈ gw := in_gw 751 (by decide +kernel) rfl
theorem ki_Row_addThings : Cond.instanceMethod y_Row_addThings ∈ gw := in_gw 749 (by decide +kernel) rfl
theorem kl_Row_addThings : Cond.selects R_Row y_Row_addThings y_Row_addThings ∈ gw := in_gw 750 (by decide +kernel) rfl
theorem kc_Trial_finish : Cond.code y_Trial_finish b_Trial_finish 1 none ∈ gw := in_gw 768 (by decide +kernel) rfl
theorem ki_Trial_finish : Cond.instanceMethod y_Trial_finish ∈ gw := in_gw 767 (by decide +kernel) rfl
theorem kl_Trial_finish : Cond.selects R_Trial y_Trial_finish y_Trial_finish ∈ gw := in_gw 21 (by decide +kernel) rfl
theorem kc_Trial_openSlot : Cond.code y_Trial_openSlot b_Trial_openSlot 3 (some (.object R_Slot)) ∈ gw := in_gw 707 (by decide +kernel) rfl
theorem ki_Trial_openSlot : Cond.instanceMethod y_Trial_openSlot ∈ gw := in_gw 706 (by decide +kernel) rfl
theorem kl_Trial_openSlot : Cond.selects R_Trial y_Trial_openSlot y_Trial_openSlot ∈ gw := in_gw 12 (by decide +kernel) rfl
theorem kc_Things_countedFor : Cond.code y_Things_countedFor b_Things_countedFor 2 (some .long) ∈ gw := in_gw 747 (by decide +kernel) rfl
theorem ki_Things_countedFor : Cond.instanceMethod y_Things_countedFor ∈ gw := in_gw 745 (by decide +kernel) rfl
theorem kl_Things_countedFor : Cond.selects R_Things y_Things_countedFor y_Things_countedFor ∈ gw := in_gw 746 (by decide +kernel) rfl
theorem kc_Trial_findOne : Cond.code y_Trial_findOne b_Trial_findOne 4 (some .long) ∈ gw := in_gw 742 (by decide +kernel) rfl
theorem ki_Trial_findOne : Cond.instanceMethod y_Trial_findOne ∈ gw := in_gw 741 (by decide +kernel) rfl
theorem kl_Trial_findOne : Cond.selects R_Trial y_Trial_findOne y_Trial_findOne ∈ gw := in_gw 18 (by decide +kernel) rfl
theorem kc_Trial_takeList : Cond.code y_Trial_takeList b_Trial_takeList 6 none ∈ gw := in_gw 764 (by decide +kernel) rfl
theorem ki_Trial_takeList : Cond.instanceMethod y_Trial_takeList ∈ gw := in_gw 763 (by decide +kernel) rfl
theorem kl_Trial_takeList : Cond.selects R_Trial y_Trial_takeList y_Trial_takeList ∈ gw := in_gw 20 (by decide +kernel) rfl
theorem kc_Things_allFor : Cond.code y_Things_allFor b_Things_allFor 4 (some .long) ∈ gw := in_gw 760 (by decide +kernel) rfl
theorem ki_Things_allFor : Cond.instanceMethod y_Things_allFor ∈ gw := in_gw 758 (by decide +kernel) rfl
theorem kl_Things_allFor : Cond.selects R_Things y_Things_allFor y_Things_allFor ∈ gw := in_gw 759 (by decide +kernel) rfl
theorem kc_Trial_takeAll : Cond.code y_Trial_takeAll b_Trial_takeAll 5 none ∈ gw := in_gw 756 (by decide +kernel) rfl
theorem ki_Trial_takeAll : Cond.instanceMethod y_Trial_takeAll ∈ gw := in_gw 755 (by decide +kernel) rfl
theorem kl_Trial_takeAll : Cond.selects R_Trial y_Trial_takeAll y_Trial_takeAll ∈ gw := in_gw 19 (by decide +kernel) rfl
theorem kc_Trial_takeOne : Cond.code y_Trial_takeOne b_Trial_takeOne 3 none ∈ gw := in_gw 738 (by decide +kernel) rfl
theorem ki_Trial_takeOne : Cond.instanceMethod y_Trial_takeOne ∈ gw := in_gw 737 (by decide +kernel) rfl
theorem kl_Trial_takeOne : Cond.selects R_Trial y_Trial_takeOne y_Trial_takeOne ∈ gw := in_gw 17 (by decide +kernel) rfl
theorem kc_Lines_ofAt : Cond.code y_Lines_ofAt b_Lines_ofAt 3 (some .int) ∈ gw := in_gw 694 (by decide +kernel) rfl
theorem ki_Lines_ofAt : Cond.instanceMethod y_Lines_ofAt ∈ gw := in_gw 692 (by decide +kernel) rfl
theorem kl_Lines_ofAt : Cond.selects R_Lines y_Lines_ofAt y_Lines_ofAt ∈ gw := in_gw 693 (by decide +kernel) rfl
theorem kc_Trial_takeCustom : Cond.code y_Trial_takeCustom b_Trial_takeCustom 3 none ∈ gw := in_gw 730 (by decide +kernel) rfl
theorem ki_Trial_takeCustom : Cond.instanceMethod y_Trial_takeCustom ∈ gw := in_gw 729 (by decide +kernel) rfl
theorem kl_Trial_takeCustom : Cond.selects R_Trial y_Trial_takeCustom y_Trial_takeCustom ∈ gw := in_gw 16 (by decide +kernel) rfl
theorem kc_Trial_takeNumber : Cond.code y_Trial_takeNumber b_Trial_takeNumber 2 none ∈ gw := in_gw 726 (by decide +kernel) rfl
theorem ki_Trial_takeNumber : Cond.instanceMethod y_Trial_takeNumber ∈ gw := in_gw 725 (by decide +kernel) rfl
theorem kl_Trial_takeNumber : Cond.selects R_Trial y_Trial_takeNumber y_Trial_takeNumber ∈ gw := in_gw 15 (by decide +kernel) rfl
theorem kc_Lines_takes : Cond.code y_Lines_takes b_Lines_takes 6 (some .boolean) ∈ gw := in_gw 717 (by decide +kernel) rfl
theorem ki_Lines_takes : Cond.instanceMethod y_Lines_takes ∈ gw := in_gw 715 (by decide +kernel) rfl
theorem kl_Lines_takes : Cond.selects R_Lines y_Lines_takes y_Lines_takes ∈ gw := in_gw 716 (by decide +kernel) rfl
theorem kc_Trial_takeTopic : Cond.code y_Trial_takeTopic b_Trial_takeTopic 4 none ∈ gw := in_gw 722 (by decide +kernel) rfl
theorem ki_Trial_takeTopic : Cond.instanceMethod y_Trial_takeTopic ∈ gw := in_gw 721 (by decide +kernel) rfl
theorem kl_Trial_takeTopic : Cond.selects R_Trial y_Trial_takeTopic y_Trial_takeTopic ∈ gw := in_gw 14 (by decide +kernel) rfl
theorem kc_Trial_takeWord : Cond.code y_Trial_takeWord b_Trial_takeWord 2 none ∈ gw := in_gw 712 (by decide +kernel) rfl
theorem ki_Trial_takeWord : Cond.instanceMethod y_Trial_takeWord ∈ gw := in_gw 711 (by decide +kernel) rfl
theorem kl_Trial_takeWord : Cond.selects R_Trial y_Trial_takeWord y_Trial_takeWord ∈ gw := in_gw 13 (by decide +kernel) rfl
theorem kc_Lines_slotFrom : Cond.code y_Lines_slotFrom b_Lines_slotFrom 4 (some .int) ∈ gw := in_gw 682 (by decide +kernel) rfl
theorem ki_Lines_slotFrom : Cond.instanceMethod y_Lines_slotFrom ∈ gw := in_gw 680 (by decide +kernel) rfl
theorem kl_Lines_slotFrom : Cond.selects R_Lines y_Lines_slotFrom y_Lines_slotFrom ∈ gw := in_gw 681 (by decide +kernel) rfl
theorem kc_Things_fillersFor : Cond.code y_Things_fillersFor b_Things_fillersFor 2 (some .long) ∈ gw := in_gw 700 (by decide +kernel) rfl
theorem ki_Things_fillersFor : Cond.instanceMethod y_Things_fillersFor ∈ gw := in_gw 698 (by decide +kernel) rfl
theorem kl_Things_fillersFor : Cond.selects R_Things y_Things_fillersFor y_Things_fillersFor ∈ gw := in_gw 699 (by decide +kernel) rfl
theorem kc_Trial_fillFrom : Cond.code y_Trial_fillFrom b_Trial_fillFrom 6 (some .boolean) ∈ gw := in_gw 690 (by decide +kernel) rfl
theorem ki_Trial_fillFrom : Cond.instanceMethod y_Trial_fillFrom ∈ gw := in_gw 689 (by decide +kernel) rfl
theorem kl_Trial_fillFrom : Cond.selects R_Trial y_Trial_fillFrom y_Trial_fillFrom ∈ gw := in_gw 11 (by decide +kernel) rfl
theorem kc_Trial_fillOrAsk : Cond.code y_Trial_fillOrAsk b_Trial_fillOrAsk 4 none ∈ gw := in_gw 678 (by decide +kernel) rfl
theorem ki_Trial_fillOrAsk : Cond.instanceMethod y_Trial_fillOrAsk ∈ gw := in_gw 677 (by decide +kernel) rfl
theorem kl_Trial_fillOrAsk : Cond.selects R_Trial y_Trial_fillOrAsk y_Trial_fillOrAsk ∈ gw := in_gw 9 (by decide +kernel) rfl
theorem kc_Trial_tryLine : Cond.code y_Trial_tryLine b_Trial_tryLine 4 none ∈ gw := in_gw 661 (by decide +kernel) rfl
theorem ki_Trial_tryLine : Cond.instanceMethod y_Trial_tryLine ∈ gw := in_gw 659 (by decide +kernel) rfl
theorem kl_Trial_tryLine : Cond.selects R_Trial y_Trial_tryLine y_Trial_tryLine ∈ gw := in_gw 660 (by decide +kernel) rfl
theorem kc_Lines_actionOf : Cond.code y_Lines_actionOf b_Lines_actionOf 2 (some .int) ∈ gw := in_gw 776 (by decide +kernel) rfl
theorem ki_Lines_actionOf : Cond.instanceMethod y_Lines_actionOf ∈ gw := in_gw 774 (by decide +kernel) rfl
theorem kl_Lines_actionOf : Cond.selects R_Lines y_Lines_actionOf y_Lines_actionOf ∈ gw := in_gw 775 (by decide +kernel) rfl
theorem kc_Report_note : Cond.code y_Report_note b_Report_note 3 none ∈ gw := in_gw 780 (by decide +kernel) rfl
theorem ki_Report_note : Cond.instanceMethod y_Report_note ∈ gw := in_gw 778 (by decide +kernel) rfl
theorem kl_Report_note : Cond.selects R_Report y_Report_note y_Report_note ∈ gw := in_gw 779 (by decide +kernel) rfl
theorem kc_G_tryCommand : Cond.code y_G_tryCommand b_G_tryCommand 3 (some .int) ∈ gw := in_gw 644 (by decide +kernel) rfl
theorem ki_G_tryCommand : Cond.instanceMethod y_G_tryCommand ∈ gw := in_gw 643 (by decide +kernel) rfl
theorem kl_G_tryCommand : Cond.selects R_G y_G_tryCommand y_G_tryCommand ∈ gw := in_gw 7 (by decide +kernel) rfl
theorem kc_G_parse : Cond.code y_G_parse b_G_parse 3 (some .int) ∈ gw := in_gw 586 (by decide +kernel) rfl
theorem ki_G_parse : Cond.instanceMethod y_G_parse ∈ gw := in_gw 584 (by decide +kernel) rfl
theorem kl_G_parse : Cond.selects R_G y_G_parse y_G_parse ∈ gw := in_gw 585 (by decide +kernel) rfl
theorem kc_Row_insert : Cond.code y_Row_insert b_Row_insert 4 none ∈ gw := in_gw 799 (by decide +kernel) rfl
theorem ki_Row_insert : Cond.instanceMethod y_Row_insert ∈ gw := in_gw 797 (by decide +kernel) rfl
theorem kl_Row_insert : Cond.selects R_Row y_Row_insert y_Row_insert ∈ gw := in_gw 798 (by decide +kernel) rfl
theorem kc_G_answer : Cond.code y_G_answer b_G_answer 4 (some .int) ∈ gw := in_gw 795 (by decide +kernel) rfl
theorem ki_G_answer : Cond.instanceMethod y_G_answer ∈ gw := in_gw 793 (by decide +kernel) rfl
theorem kl_G_answer : Cond.selects R_G y_G_answer y_G_answer ∈ gw := in_gw 794 (by decide +kernel) rfl
theorem kc_Lines_isReversed : Cond.code y_Lines_isReversed b_Lines_isReversed 2 (some .boolean) ∈ gw := in_gw 807 (by decide +kernel) rfl
theorem ki_Lines_isReversed : Cond.instanceMethod y_Lines_isReversed ∈ gw := in_gw 805 (by decide +kernel) rfl
theorem kl_Lines_isReversed : Cond.selects R_Lines y_Lines_isReversed y_Lines_isReversed ∈ gw := in_gw 806 (by decide +kernel) rfl
theorem kc_Trial_slotsTaken : Cond.code y_Trial_slotsTaken b_Trial_slotsTaken 1 (some .int) ∈ gw := in_gw 811 (by decide +kernel) rfl
theorem ki_Trial_slotsTaken : Cond.instanceMethod y_Trial_slotsTaken ∈ gw := in_gw 809 (by decide +kernel) rfl
theorem kl_Trial_slotsTaken : Cond.selects R_Trial y_Trial_slotsTaken y_Trial_slotsTaken ∈ gw := in_gw 810 (by decide +kernel) rfl
theorem kc_G_object : Cond.code y_G_object b_G_object 6 (some .int) ∈ gw := in_gw 803 (by decide +kernel) rfl
theorem ki_G_object : Cond.instanceMethod y_G_object ∈ gw := in_gw 801 (by decide +kernel) rfl
theorem kl_G_object : Cond.selects R_G y_G_object y_G_object ∈ gw := in_gw 802 (by decide +kernel) rfl
theorem kc_G_asked : Cond.code y_G_asked b_G_asked 2 (some .int) ∈ gw := in_gw 815 (by decide +kernel) rfl
theorem ki_G_asked : Cond.instanceMethod y_G_asked ∈ gw := in_gw 813 (by decide +kernel) rfl
theorem kl_G_asked : Cond.selects R_G y_G_asked y_G_asked ∈ gw := in_gw 814 (by decide +kernel) rfl
theorem kc_G_filled : Cond.code y_G_filled b_G_filled 2 (some .int) ∈ gw := in_gw 819 (by decide +kernel) rfl
theorem ki_G_filled : Cond.instanceMethod y_G_filled ∈ gw := in_gw 817 (by decide +kernel) rfl
theorem kl_G_filled : Cond.selects R_G y_G_filled y_G_filled ∈ gw := in_gw 818 (by decide +kernel) rfl
theorem kc_Verbs_count : Cond.code y_Verbs_count b_Verbs_count 1 (some .int) ∈ gw := in_gw 827 (by decide +kernel) rfl
theorem ki_Verbs_count : Cond.instanceMethod y_Verbs_count ∈ gw := in_gw 825 (by decide +kernel) rfl
theorem kl_Verbs_count : Cond.selects R_Verbs y_Verbs_count y_Verbs_count ∈ gw := in_gw 826 (by decide +kernel) rfl
theorem kc_Things_count : Cond.code y_Things_count b_Things_count 1 (some .int) ∈ gw := in_gw 831 (by decide +kernel) rfl
theorem ki_Things_count : Cond.instanceMethod y_Things_count ∈ gw := in_gw 829 (by decide +kernel) rfl
theorem kl_Things_count : Cond.selects R_Things y_Things_count y_Things_count ∈ gw := in_gw 830 (by decide +kernel) rfl
theorem kc_G_told : Cond.code y_G_told b_G_told 2 (some .int) ∈ gw := in_gw 823 (by decide +kernel) rfl
theorem ki_G_told : Cond.instanceMethod y_G_told ∈ gw := in_gw 821 (by decide +kernel) rfl
theorem kl_G_told : Cond.selects R_G y_G_told y_G_told ∈ gw := in_gw 822 (by decide +kernel) rfl
theorem kc_G_trace : Cond.code y_G_trace b_G_trace 3 (some .int) ∈ gw := in_gw 835 (by decide +kernel) rfl
theorem ki_G_trace : Cond.instanceMethod y_G_trace ∈ gw := in_gw 833 (by decide +kernel) rfl
theorem kl_G_trace : Cond.selects R_G y_G_trace y_G_trace ∈ gw := in_gw 834 (by decide +kernel) rfl
theorem kc_G_said : Cond.code y_G_said b_G_said 3 (some .int) ∈ gw := in_gw 839 (by decide +kernel) rfl
theorem ki_G_said : Cond.instanceMethod y_G_said ∈ gw := in_gw 837 (by decide +kernel) rfl
theorem kl_G_said : Cond.selects R_G y_G_said y_G_said ∈ gw := in_gw 838 (by decide +kernel) rfl
theorem kc_M_within : Cond.code y_M_within b_M_within 3 (some .boolean) ∈ gw := in_gw 1025 (by decide +kernel) rfl
theorem ks_M_within : Cond.static y_M_within ∈ gw := in_gw 1024 (by decide +kernel) rfl
theorem kc_M_isPlain : Cond.code y_M_isPlain b_M_isPlain 1 (some .boolean) ∈ gw := in_gw 1022 (by decide +kernel) rfl
theorem ks_M_isPlain : Cond.static y_M_isPlain ∈ gw := in_gw 1021 (by decide +kernel) rfl
theorem kc_M_verbBy : Cond.code y_M_verbBy b_M_verbBy 3 (some .int) ∈ gw := in_gw 1029 (by decide +kernel) rfl
theorem ki_M_verbBy : Cond.instanceMethod y_M_verbBy ∈ gw := in_gw 1028 (by decide +kernel) rfl
theorem kl_M_verbBy : Cond.selects R_M y_M_verbBy y_M_verbBy ∈ gw := in_gw 23 (by decide +kernel) rfl
theorem kc_M_isOfVerb : Cond.code y_M_isOfVerb b_M_isOfVerb 3 none ∈ gw := in_gw 1033 (by decide +kernel) rfl
theorem ki_M_isOfVerb : Cond.instanceMethod y_M_isOfVerb ∈ gw := in_gw 1032 (by decide +kernel) rfl
theorem kl_M_isOfVerb : Cond.selects R_M y_M_isOfVerb y_M_isOfVerb ∈ gw := in_gw 24 (by decide +kernel) rfl
theorem kc_M_verb : Cond.code y_M_verb b_M_verb 2 (some .int) ∈ gw := in_gw 1019 (by decide +kernel) rfl
theorem ki_M_verb : Cond.instanceMethod y_M_verb ∈ gw := in_gw 1017 (by decide +kernel) rfl
theorem kl_M_verb : Cond.selects R_M y_M_verb y_M_verb ∈ gw := in_gw 1018 (by decide +kernel) rfl
theorem kc_M_like : Cond.code y_M_like b_M_like 5 (some .int) ∈ gw := in_gw 1037 (by decide +kernel) rfl
theorem ki_M_like : Cond.instanceMethod y_M_like ∈ gw := in_gw 1035 (by decide +kernel) rfl
theorem kl_M_like : Cond.selects R_M y_M_like y_M_like ∈ gw := in_gw 1036 (by decide +kernel) rfl
theorem kc_M_line : Cond.code y_M_line b_M_line 4 (some .int) ∈ gw := in_gw 1041 (by decide +kernel) rfl
theorem ki_M_line : Cond.instanceMethod y_M_line ∈ gw := in_gw 1039 (by decide +kernel) rfl
theorem kl_M_line : Cond.selects R_M y_M_line y_M_line ∈ gw := in_gw 1040 (by decide +kernel) rfl
theorem kc_M_isSlot : Cond.code y_M_isSlot b_M_isSlot 1 (some .boolean) ∈ gw := in_gw 1048 (by decide +kernel) rfl
theorem ks_M_isSlot : Cond.static y_M_isSlot ∈ gw := in_gw 1047 (by decide +kernel) rfl
theorem kc_M_token : Cond.code y_M_token b_M_token 8 (some .int) ∈ gw := in_gw 1045 (by decide +kernel) rfl
theorem ki_M_token : Cond.instanceMethod y_M_token ∈ gw := in_gw 1043 (by decide +kernel) rfl
theorem kl_M_token : Cond.selects R_M y_M_token y_M_token ∈ gw := in_gw 1044 (by decide +kernel) rfl
theorem kc_M_thing : Cond.code y_M_thing b_M_thing 2 (some .int) ∈ gw := in_gw 1052 (by decide +kernel) rfl
theorem ki_M_thing : Cond.instanceMethod y_M_thing ∈ gw := in_gw 1050 (by decide +kernel) rfl
theorem kl_M_thing : Cond.selects R_M y_M_thing y_M_thing ∈ gw := in_gw 1051 (by decide +kernel) rfl
theorem kc_M_hasName : Cond.code y_M_hasName b_M_hasName 5 (some .boolean) ∈ gw := in_gw 1060 (by decide +kernel) rfl
theorem ki_M_hasName : Cond.instanceMethod y_M_hasName ∈ gw := in_gw 1059 (by decide +kernel) rfl
theorem kl_M_hasName : Cond.selects R_M y_M_hasName y_M_hasName ∈ gw := in_gw 25 (by decide +kernel) rfl
theorem kc_M_name : Cond.code y_M_name b_M_name 3 (some .int) ∈ gw := in_gw 1056 (by decide +kernel) rfl
theorem ki_M_name : Cond.instanceMethod y_M_name ∈ gw := in_gw 1054 (by decide +kernel) rfl
theorem kl_M_name : Cond.selects R_M y_M_name y_M_name ∈ gw := in_gw 1055 (by decide +kernel) rfl
theorem kc_M_flags : Cond.code y_M_flags b_M_flags 4 (some .int) ∈ gw := in_gw 1064 (by decide +kernel) rfl
theorem ki_M_flags : Cond.instanceMethod y_M_flags ∈ gw := in_gw 1062 (by decide +kernel) rfl
theorem kl_M_flags : Cond.selects R_M y_M_flags y_M_flags ∈ gw := in_gw 1063 (by decide +kernel) rfl
theorem kc_M_pairOf : Cond.code y_M_pairOf b_M_pairOf 4 (some .int) ∈ gw := in_gw 1072 (by decide +kernel) rfl
theorem ki_M_pairOf : Cond.instanceMethod y_M_pairOf ∈ gw := in_gw 1071 (by decide +kernel) rfl
theorem kl_M_pairOf : Cond.selects R_M y_M_pairOf y_M_pairOf ∈ gw := in_gw 26 (by decide +kernel) rfl
theorem kc_M_custom : Cond.code y_M_custom b_M_custom 5 (some .int) ∈ gw := in_gw 1068 (by decide +kernel) rfl
theorem ki_M_custom : Cond.instanceMethod y_M_custom ∈ gw := in_gw 1066 (by decide +kernel) rfl
theorem kl_M_custom : Cond.selects R_M y_M_custom y_M_custom ∈ gw := in_gw 1067 (by decide +kernel) rfl
theorem kc_M_isAny : Cond.code y_M_isAny b_M_isAny 1 (some .boolean) ∈ gw := in_gw 1079 (by decide +kernel) rfl
theorem ks_M_isAny : Cond.static y_M_isAny ∈ gw := in_gw 1078 (by decide +kernel) rfl
theorem kc_M_word : Cond.code y_M_word b_M_word 2 (some .int) ∈ gw := in_gw 1076 (by decide +kernel) rfl
theorem ki_M_word : Cond.instanceMethod y_M_word ∈ gw := in_gw 1074 (by decide +kernel) rfl
theorem kl_M_word : Cond.selects R_M y_M_word y_M_word ∈ gw := in_gw 1075 (by decide +kernel) rfl
theorem kc_M_clear : Cond.code y_M_clear b_M_clear 2 (some .int) ∈ gw := in_gw 1083 (by decide +kernel) rfl
theorem ki_M_clear : Cond.instanceMethod y_M_clear ∈ gw := in_gw 1081 (by decide +kernel) rfl
theorem kl_M_clear : Cond.selects R_M y_M_clear y_M_clear ∈ gw := in_gw 1082 (by decide +kernel) rfl
theorem kc_M_take : Cond.code y_M_take b_M_take 4 none ∈ gw := in_gw 1095 (by decide +kernel) rfl
theorem ki_M_take : Cond.instanceMethod y_M_take ∈ gw := in_gw 1094 (by decide +kernel) rfl
theorem kl_M_take : Cond.selects R_M y_M_take y_M_take ∈ gw := in_gw 28 (by decide +kernel) rfl
theorem kc_M_isHeld : Cond.code y_M_isHeld b_M_isHeld 2 (some .boolean) ∈ gw := in_gw 1107 (by decide +kernel) rfl
theorem ki_M_isHeld : Cond.instanceMethod y_M_isHeld ∈ gw := in_gw 1106 (by decide +kernel) rfl
theorem kl_M_isHeld : Cond.selects R_M y_M_isHeld y_M_isHeld ∈ gw := in_gw 31 (by decide +kernel) rfl
theorem kc_M_isInScope : Cond.code y_M_isInScope b_M_isInScope 2 (some .boolean) ∈ gw := in_gw 1103 (by decide +kernel) rfl
theorem ki_M_isInScope : Cond.instanceMethod y_M_isInScope ∈ gw := in_gw 1102 (by decide +kernel) rfl
theorem kl_M_isInScope : Cond.selects R_M y_M_isInScope y_M_isInScope ∈ gw := in_gw 30 (by decide +kernel) rfl
theorem kc_M_phrase : Cond.code y_M_phrase b_M_phrase 6 (some .int) ∈ gw := in_gw 1099 (by decide +kernel) rfl
theorem ki_M_phrase : Cond.instanceMethod y_M_phrase ∈ gw := in_gw 1098 (by decide +kernel) rfl
theorem kl_M_phrase : Cond.selects R_M y_M_phrase y_M_phrase ∈ gw := in_gw 29 (by decide +kernel) rfl
theorem kc_M_has : Cond.code y_M_has b_M_has 3 (some .boolean) ∈ gw := in_gw 1114 (by decide +kernel) rfl
theorem ks_M_has : Cond.static y_M_has ∈ gw := in_gw 1113 (by decide +kernel) rfl
theorem kc_M_manyOf : Cond.code y_M_manyOf b_M_manyOf 5 (some .int) ∈ gw := in_gw 1111 (by decide +kernel) rfl
theorem ki_M_manyOf : Cond.instanceMethod y_M_manyOf ∈ gw := in_gw 1110 (by decide +kernel) rfl
theorem kl_M_manyOf : Cond.selects R_M y_M_manyOf y_M_manyOf ∈ gw := in_gw 32 (by decide +kernel) rfl
theorem kc_M_thingOf : Cond.code y_M_thingOf b_M_thingOf 6 (some .int) ∈ gw := in_gw 1118 (by decide +kernel) rfl
theorem ki_M_thingOf : Cond.instanceMethod y_M_thingOf ∈ gw := in_gw 1117 (by decide +kernel) rfl
theorem kl_M_thingOf : Cond.selects R_M y_M_thingOf y_M_thingOf ∈ gw := in_gw 33 (by decide +kernel) rfl
theorem kc_M_isCreature : Cond.code y_M_isCreature b_M_isCreature 2 (some .boolean) ∈ gw := in_gw 1122 (by decide +kernel) rfl
theorem ki_M_isCreature : Cond.instanceMethod y_M_isCreature ∈ gw := in_gw 1121 (by decide +kernel) rfl
theorem kl_M_isCreature : Cond.selects R_M y_M_isCreature y_M_isCreature ∈ gw := in_gw 34 (by decide +kernel) rfl
theorem kc_M_stands : Cond.code y_M_stands b_M_stands 3 (some .boolean) ∈ gw := in_gw 1126 (by decide +kernel) rfl
theorem ki_M_stands : Cond.instanceMethod y_M_stands ∈ gw := in_gw 1125 (by decide +kernel) rfl
theorem kl_M_stands : Cond.selects R_M y_M_stands y_M_stands ∈ gw := in_gw 35 (by decide +kernel) rfl
theorem kc_M_off : Cond.code y_M_off b_M_off 3 none ∈ gw := in_gw 1130 (by decide +kernel) rfl
theorem ki_M_off : Cond.instanceMethod y_M_off ∈ gw := in_gw 1129 (by decide +kernel) rfl
theorem kl_M_off : Cond.selects R_M y_M_off y_M_off ∈ gw := in_gw 36 (by decide +kernel) rfl
theorem kc_M_order : Cond.code y_M_order b_M_order 2 none ∈ gw := in_gw 1091 (by decide +kernel) rfl
theorem ki_M_order : Cond.instanceMethod y_M_order ∈ gw := in_gw 1090 (by decide +kernel) rfl
theorem kl_M_order : Cond.selects R_M y_M_order y_M_order ∈ gw := in_gw 27 (by decide +kernel) rfl
theorem kc_M_begins : Cond.code y_M_begins b_M_begins 1 none ∈ gw := in_gw 1134 (by decide +kernel) rfl
theorem ki_M_begins : Cond.instanceMethod y_M_begins ∈ gw := in_gw 1133 (by decide +kernel) rfl
theorem kl_M_begins : Cond.selects R_M y_M_begins y_M_begins ∈ gw := in_gw 37 (by decide +kernel) rfl
theorem kc_M_fails : Cond.code y_M_fails b_M_fails 3 none ∈ gw := in_gw 1150 (by decide +kernel) rfl
theorem ki_M_fails : Cond.instanceMethod y_M_fails ∈ gw := in_gw 1149 (by decide +kernel) rfl
theorem kl_M_fails : Cond.selects R_M y_M_fails y_M_fails ∈ gw := in_gw 41 (by decide +kernel) rfl
theorem kc_M_others : Cond.code y_M_others b_M_others 2 none ∈ gw := in_gw 1203 (by decide +kernel) rfl
theorem ki_M_others : Cond.instanceMethod y_M_others ∈ gw := in_gw 1202 (by decide +kernel) rfl
theorem kl_M_others : Cond.selects R_M y_M_others y_M_others ∈ gw := in_gw 54 (by decide +kernel) rfl
theorem kc_M_slot : Cond.code y_M_slot b_M_slot 3 none ∈ gw := in_gw 1166 (by decide +kernel) rfl
theorem ki_M_slot : Cond.instanceMethod y_M_slot ∈ gw := in_gw 1165 (by decide +kernel) rfl
theorem kl_M_slot : Cond.selects R_M y_M_slot y_M_slot ∈ gw := in_gw 45 (by decide +kernel) rfl
theorem kc_M_next : Cond.code y_M_next b_M_next 4 (some .int) ∈ gw := in_gw 1170 (by decide +kernel) rfl
theorem ki_M_next : Cond.instanceMethod y_M_next ∈ gw := in_gw 1169 (by decide +kernel) rfl
theorem kl_M_next : Cond.selects R_M y_M_next y_M_next ∈ gw := in_gw 46 (by decide +kernel) rfl
theorem kc_M_isOneOf : Cond.code y_M_isOneOf b_M_isOneOf 6 (some .boolean) ∈ gw := in_gw 1178 (by decide +kernel) rfl
theorem ki_M_isOneOf : Cond.instanceMethod y_M_isOneOf ∈ gw := in_gw 1177 (by decide +kernel) rfl
theorem kl_M_isOneOf : Cond.selects R_M y_M_isOneOf y_M_isOneOf ∈ gw := in_gw 48 (by decide +kernel) rfl
theorem kc_M_takesTopic : Cond.code y_M_takesTopic b_M_takesTopic 6 (some .int) ∈ gw := in_gw 1199 (by decide +kernel) rfl
theorem ki_M_takesTopic : Cond.instanceMethod y_M_takesTopic ∈ gw := in_gw 1198 (by decide +kernel) rfl
theorem kl_M_takesTopic : Cond.selects R_M y_M_takesTopic y_M_takesTopic ∈ gw := in_gw 53 (by decide +kernel) rfl
theorem kc_M_isWorn : Cond.code y_M_isWorn b_M_isWorn 2 (some .boolean) ∈ gw := in_gw 1162 (by decide +kernel) rfl
theorem ki_M_isWorn : Cond.instanceMethod y_M_isWorn ∈ gw := in_gw 1161 (by decide +kernel) rfl
theorem kl_M_isWorn : Cond.selects R_M y_M_isWorn y_M_isWorn ∈ gw := in_gw 44 (by decide +kernel) rfl
theorem kc_M_takesOne : Cond.code y_M_takesOne b_M_takesOne 8 (some .int) ∈ gw := in_gw 1182 (by decide +kernel) rfl
theorem ki_M_takesOne : Cond.instanceMethod y_M_takesOne ∈ gw := in_gw 1181 (by decide +kernel) rfl
theorem kl_M_takesOne : Cond.selects R_M y_M_takesOne y_M_takesOne ∈ gw := in_gw 49 (by decide +kernel) rfl
theorem kc_M_joins : Cond.code y_M_joins b_M_joins 2 (some .boolean) ∈ gw := in_gw 1186 (by decide +kernel) rfl
theorem ki_M_joins : Cond.instanceMethod y_M_joins ∈ gw := in_gw 1185 (by decide +kernel) rfl
theorem kl_M_joins : Cond.selects R_M y_M_joins y_M_joins ∈ gw := in_gw 50 (by decide +kernel) rfl
theorem kc_M_lacksOne : Cond.code y_M_lacksOne b_M_lacksOne 2 (some .int) ∈ gw := in_gw 1195 (by decide +kernel) rfl
theorem ki_M_lacksOne : Cond.instanceMethod y_M_lacksOne ∈ gw := in_gw 1194 (by decide +kernel) rfl
theorem kl_M_lacksOne : Cond.selects R_M y_M_lacksOne y_M_lacksOne ∈ gw := in_gw 52 (by decide +kernel) rfl
theorem kc_M_takesSeveral : Cond.code y_M_takesSeveral b_M_takesSeveral 7 (some .int) ∈ gw := in_gw 1190 (by decide +kernel) rfl
theorem ki_M_takesSeveral : Cond.instanceMethod y_M_takesSeveral ∈ gw := in_gw 1189 (by decide +kernel) rfl
theorem kl_M_takesSeveral : Cond.selects R_M y_M_takesSeveral y_M_takesSeveral ∈ gw := in_gw 51 (by decide +kernel) rfl
theorem kc_M_takes : Cond.code y_M_takes b_M_takes 7 (some .int) ∈ gw := in_gw 1174 (by decide +kernel) rfl
theorem ki_M_takes : Cond.instanceMethod y_M_takes ∈ gw := in_gw 1173 (by decide +kernel) rfl
theorem kl_M_takes : Cond.selects R_M y_M_takes y_M_takes ∈ gw := in_gw 47 (by decide +kernel) rfl
theorem kc_M_goesWith : Cond.code y_M_goesWith b_M_goesWith 3 (some .boolean) ∈ gw := in_gw 1158 (by decide +kernel) rfl
theorem ki_M_goesWith : Cond.instanceMethod y_M_goesWith ∈ gw := in_gw 1157 (by decide +kernel) rfl
theorem kl_M_goesWith : Cond.selects R_M y_M_goesWith y_M_goesWith ∈ gw := in_gw 43 (by decide +kernel) rfl
theorem kc_M_isFilled : Cond.code y_M_isFilled b_M_isFilled 10 (some .boolean) ∈ gw := in_gw 1154 (by decide +kernel) rfl
theorem ki_M_isFilled : Cond.instanceMethod y_M_isFilled ∈ gw := in_gw 1153 (by decide +kernel) rfl
theorem kl_M_isFilled : Cond.selects R_M y_M_isFilled y_M_isFilled ∈ gw := in_gw 42 (by decide +kernel) rfl
theorem kc_M_ends : Cond.code y_M_ends b_M_ends 7 none ∈ gw := in_gw 1146 (by decide +kernel) rfl
theorem ki_M_ends : Cond.instanceMethod y_M_ends ∈ gw := in_gw 1145 (by decide +kernel) rfl
theorem kl_M_ends : Cond.selects R_M y_M_ends y_M_ends ∈ gw := in_gw 40 (by decide +kernel) rfl
theorem kc_M_tries : Cond.code y_M_tries b_M_tries 5 none ∈ gw := in_gw 1142 (by decide +kernel) rfl
theorem ki_M_tries : Cond.instanceMethod y_M_tries ∈ gw := in_gw 1141 (by decide +kernel) rfl
theorem kl_M_tries : Cond.selects R_M y_M_tries y_M_tries ∈ gw := in_gw 39 (by decide +kernel) rfl
theorem kc_M_without : Cond.code y_M_without b_M_without 2 (some .int) ∈ gw := in_gw 1207 (by decide +kernel) rfl
theorem ki_M_without : Cond.instanceMethod y_M_without ∈ gw := in_gw 1206 (by decide +kernel) rfl
theorem kl_M_without : Cond.selects R_M y_M_without y_M_without ∈ gw := in_gw 55 (by decide +kernel) rfl
theorem kc_M_isTried : Cond.code y_M_isTried b_M_isTried 6 (some .int) ∈ gw := in_gw 1138 (by decide +kernel) rfl
theorem ki_M_isTried : Cond.instanceMethod y_M_isTried ∈ gw := in_gw 1137 (by decide +kernel) rfl
theorem kl_M_isTried : Cond.selects R_M y_M_isTried y_M_isTried ∈ gw := in_gw 38 (by decide +kernel) rfl
theorem kc_M_parse : Cond.code y_M_parse b_M_parse 8 (some .int) ∈ gw := in_gw 1087 (by decide +kernel) rfl
theorem ki_M_parse : Cond.instanceMethod y_M_parse ∈ gw := in_gw 1085 (by decide +kernel) rfl
theorem kl_M_parse : Cond.selects R_M y_M_parse y_M_parse ∈ gw := in_gw 1086 (by decide +kernel) rfl
theorem kc_M_comesIn : Cond.code y_M_comesIn b_M_comesIn 4 none ∈ gw := in_gw 1216 (by decide +kernel) rfl
theorem ki_M_comesIn : Cond.instanceMethod y_M_comesIn ∈ gw := in_gw 1215 (by decide +kernel) rfl
theorem kl_M_comesIn : Cond.selects R_M y_M_comesIn y_M_comesIn ∈ gw := in_gw 56 (by decide +kernel) rfl
theorem kc_M_answer : Cond.code y_M_answer b_M_answer 4 (some .int) ∈ gw := in_gw 1211 (by decide +kernel) rfl
theorem ki_M_answer : Cond.instanceMethod y_M_answer ∈ gw := in_gw 1209 (by decide +kernel) rfl
theorem kl_M_answer : Cond.selects R_M y_M_answer y_M_answer ∈ gw := in_gw 1210 (by decide +kernel) rfl
theorem kc_M_object : Cond.code y_M_object b_M_object 6 (some .int) ∈ gw := in_gw 1220 (by decide +kernel) rfl
theorem ki_M_object : Cond.instanceMethod y_M_object ∈ gw := in_gw 1218 (by decide +kernel) rfl
theorem kl_M_object : Cond.selects R_M y_M_object y_M_object ∈ gw := in_gw 1219 (by decide +kernel) rfl
theorem kc_M_asked : Cond.code y_M_asked b_M_asked 2 (some .int) ∈ gw := in_gw 1224 (by decide +kernel) rfl
theorem ki_M_asked : Cond.instanceMethod y_M_asked ∈ gw := in_gw 1222 (by decide +kernel) rfl
theorem kl_M_asked : Cond.selects R_M y_M_asked y_M_asked ∈ gw := in_gw 1223 (by decide +kernel) rfl
theorem kc_M_filled : Cond.code y_M_filled b_M_filled 2 (some .int) ∈ gw := in_gw 1228 (by decide +kernel) rfl
theorem ki_M_filled : Cond.instanceMethod y_M_filled ∈ gw := in_gw 1226 (by decide +kernel) rfl
theorem kl_M_filled : Cond.selects R_M y_M_filled y_M_filled ∈ gw := in_gw 1227 (by decide +kernel) rfl
theorem kc_M_told : Cond.code y_M_told b_M_told 2 (some .int) ∈ gw := in_gw 1232 (by decide +kernel) rfl
theorem ki_M_told : Cond.instanceMethod y_M_told ∈ gw := in_gw 1230 (by decide +kernel) rfl
theorem kl_M_told : Cond.selects R_M y_M_told y_M_told ∈ gw := in_gw 1231 (by decide +kernel) rfl
theorem kc_M_trace : Cond.code y_M_trace b_M_trace 3 (some .int) ∈ gw := in_gw 1236 (by decide +kernel) rfl
theorem ki_M_trace : Cond.instanceMethod y_M_trace ∈ gw := in_gw 1234 (by decide +kernel) rfl
theorem kl_M_trace : Cond.selects R_M y_M_trace y_M_trace ∈ gw := in_gw 1235 (by decide +kernel) rfl
theorem kc_M_said : Cond.code y_M_said b_M_said 3 (some .int) ∈ gw := in_gw 1240 (by decide +kernel) rfl
theorem ki_M_said : Cond.instanceMethod y_M_said ∈ gw := in_gw 1238 (by decide +kernel) rfl
theorem kl_M_said : Cond.selects R_M y_M_said y_M_said ∈ gw := in_gw 1239 (by decide +kernel) rfl
theorem k_cl_JLong_314 : Cond.constantLong R_JLong 314 (6148914691236517205) ∈ gw := in_gw 604 (by decide +kernel) rfl
theorem k_cl_JLong_316 : Cond.constantLong R_JLong 316 (3689348814741910323) ∈ gw := in_gw 605 (by decide +kernel) rfl
theorem k_cl_JLong_318 : Cond.constantLong R_JLong 318 (1085102592571150095) ∈ gw := in_gw 606 (by decide +kernel) rfl
theorem k_cl_M_248 : Cond.constantLong R_M 248 (-1) ∈ gw := in_gw 1191 (by decide +kernel) rfl
theorem k_cl_Things_62 : Cond.constantLong R_Things 62 (-1) ∈ gw := in_gw 701 (by decide +kernel) rfl
theorem k_cl_Trial_192 : Cond.constantLong R_Trial 192 (-1) ∈ gw := in_gw 702 (by decide +kernel) rfl
theorem k_code_JMath_max : Cond.code Lib.Math.max.name Lib.Math.max.code 2 (some .int) ∈ gw := in_gw 127 (by decide +kernel) rfl
theorem k_code_JMath_min : Cond.code Lib.Math.min.name Lib.Math.min.code 2 (some .int) ∈ gw := in_gw 614 (by decide +kernel) rfl
theorem k_f_G_10 : Cond.fieldLink R_G 10 "GrammarLines" "things" "LGrammarLines$Things;" ∈ gw := in_gw 345 (by decide +kernel) rfl
theorem k_f_G_19 : Cond.fieldLink R_G 19 "GrammarLines" "verbs" "LGrammarLines$Verbs;" ∈ gw := in_gw 346 (by decide +kernel) rfl
theorem k_f_G_26 : Cond.fieldLink R_G 26 "GrammarLines" "lines" "LGrammarLines$Lines;" ∈ gw := in_gw 347 (by decide +kernel) rfl
theorem k_f_G_33 : Cond.fieldLink R_G 33 "GrammarLines" "values" "LGrammarLines$Values;" ∈ gw := in_gw 348 (by decide +kernel) rfl
theorem k_f_G_42 : Cond.fieldLink R_G 42 "GrammarLines" "input" "LGrammarLines$Row;" ∈ gw := in_gw 349 (by decide +kernel) rfl
theorem k_f_G_46 : Cond.fieldLink R_G 46 "GrammarLines" "command" "LGrammarLines$Row;" ∈ gw := in_gw 350 (by decide +kernel) rfl
theorem k_f_G_49 : Cond.fieldLink R_G 49 "GrammarLines" "taken" "LGrammarLines$Row;" ∈ gw := in_gw 351 (by decide +kernel) rfl
theorem k_f_G_52 : Cond.fieldLink R_G 52 "GrammarLines" "done" "LGrammarLines$Row;" ∈ gw := in_gw 352 (by decide +kernel) rfl
theorem k_f_G_60 : Cond.fieldLink R_G 60 "GrammarLines" "addressee" "LGrammarLines$Phrase;" ∈ gw := in_gw 353 (by decide +kernel) rfl
theorem k_f_G_69 : Cond.fieldLink R_G 69 "GrammarLines" "trial" "LGrammarLines$Trial;" ∈ gw := in_gw 354 (by decide +kernel) rfl
theorem k_f_G_76 : Cond.fieldLink R_G 76 "GrammarLines" "report" "LGrammarLines$Report;" ∈ gw := in_gw 355 (by decide +kernel) rfl
theorem k_f_G_80 : Cond.fieldLink R_G 80 "GrammarLines" "recipient" "I" ∈ gw := in_gw 356 (by decide +kernel) rfl
theorem k_f_G_84 : Cond.fieldLink R_G 84 "GrammarLines" "doneTo" "I" ∈ gw := in_gw 357 (by decide +kernel) rfl
theorem k_f_Lines_15 : Cond.fieldLink R_Lines 15 "GrammarLines$Lines" "actions" "[I" ∈ gw := in_gw 152 (by decide +kernel) rfl
theorem k_f_Lines_18 : Cond.fieldLink R_Lines 18 "GrammarLines$Lines" "reversals" "[Z" ∈ gw := in_gw 153 (by decide +kernel) rfl
theorem k_f_Lines_22 : Cond.fieldLink R_Lines 22 "GrammarLines$Lines" "kindCounts" "[I" ∈ gw := in_gw 154 (by decide +kernel) rfl
theorem k_f_Lines_25 : Cond.fieldLink R_Lines 25 "GrammarLines$Lines" "kinds" "[I" ∈ gw := in_gw 155 (by decide +kernel) rfl
theorem k_f_Lines_28 : Cond.fieldLink R_Lines 28 "GrammarLines$Lines" "ofs" "[I" ∈ gw := in_gw 156 (by decide +kernel) rfl
theorem k_f_Lines_31 : Cond.fieldLink R_Lines 31 "GrammarLines$Lines" "count" "I" ∈ gw := in_gw 157 (by decide +kernel) rfl
theorem k_f_Lines_9 : Cond.fieldLink R_Lines 9 "GrammarLines$Lines" "verbs" "[I" ∈ gw := in_gw 151 (by decide +kernel) rfl
theorem k_f_M_103 : Cond.fieldLink R_M 103 "GrammarLinesModel" "toWhom" "I" ∈ gw := in_gw 888 (by decide +kernel) rfl
theorem k_f_M_106 : Cond.fieldLink R_M 106 "GrammarLinesModel" "errorPlace" "I" ∈ gw := in_gw 895 (by decide +kernel) rfl
theorem k_f_M_109 : Cond.fieldLink R_M 109 "GrammarLinesModel" "errorLine" "I" ∈ gw := in_gw 896 (by decide +kernel) rfl
theorem k_f_M_116 : Cond.fieldLink R_M 116 "GrammarLinesModel" "verbWords" "I" ∈ gw := in_gw 847 (by decide +kernel) rfl
theorem k_f_M_127 : Cond.fieldLink R_M 127 "GrammarLinesModel" "verbs" "I" ∈ gw := in_gw 846 (by decide +kernel) rfl
theorem k_f_M_13 : Cond.fieldLink R_M 13 "GrammarLinesModel" "verbOf" "[I" ∈ gw := in_gw 849 (by decide +kernel) rfl
theorem k_f_M_134 : Cond.fieldLink R_M 134 "GrammarLinesModel" "lines" "I" ∈ gw := in_gw 850 (by decide +kernel) rfl
theorem k_f_M_140 : Cond.fieldLink R_M 140 "GrammarLinesModel" "things" "I" ∈ gw := in_gw 857 (by decide +kernel) rfl
theorem k_f_M_147 : Cond.fieldLink R_M 147 "GrammarLinesModel" "pairs" "I" ∈ gw := in_gw 861 (by decide +kernel) rfl
theorem k_f_M_157 : Cond.fieldLink R_M 157 "GrammarLinesModel" "inputMany" "I" ∈ gw := in_gw 865 (by decide +kernel) rfl
theorem k_f_M_16 : Cond.fieldLink R_M 16 "GrammarLinesModel" "lineVerb" "[I" ∈ gw := in_gw 851 (by decide +kernel) rfl
theorem k_f_M_167 : Cond.fieldLink R_M 167 "GrammarLinesModel" "rowMany" "I" ∈ gw := in_gw 868 (by decide +kernel) rfl
theorem k_f_M_170 : Cond.fieldLink R_M 170 "GrammarLinesModel" "phraseThings" "J" ∈ gw := in_gw 869 (by decide +kernel) rfl
theorem k_f_M_180 : Cond.fieldLink R_M 180 "GrammarLinesModel" "error" "I" ∈ gw := in_gw 870 (by decide +kernel) rfl
theorem k_f_M_183 : Cond.fieldLink R_M 183 "GrammarLinesModel" "place" "I" ∈ gw := in_gw 871 (by decide +kernel) rfl
theorem k_f_M_186 : Cond.fieldLink R_M 186 "GrammarLinesModel" "slotMany" "I" ∈ gw := in_gw 879 (by decide +kernel) rfl
theorem k_f_M_19 : Cond.fieldLink R_M 19 "GrammarLinesModel" "lineAction" "[I" ∈ gw := in_gw 852 (by decide +kernel) rfl
theorem k_f_M_192 : Cond.fieldLink R_M 192 "GrammarLinesModel" "fills" "I" ∈ gw := in_gw 877 (by decide +kernel) rfl
theorem k_f_M_195 : Cond.fieldLink R_M 195 "GrammarLinesModel" "toldMany" "I" ∈ gw := in_gw 875 (by decide +kernel) rfl
theorem k_f_M_22 : Cond.fieldLink R_M 22 "GrammarLinesModel" "isReversed" "[Z" ∈ gw := in_gw 853 (by decide +kernel) rfl
theorem k_f_M_242 : Cond.fieldLink R_M 242 "GrammarLinesModel" "which" "J" ∈ gw := in_gw 872 (by decide +kernel) rfl
theorem k_f_M_245 : Cond.fieldLink R_M 245 "GrammarLinesModel" "phraseEnd" "I" ∈ gw := in_gw 873 (by decide +kernel) rfl
theorem k_f_M_256 : Cond.fieldLink R_M 256 "GrammarLinesModel" "lacks" "I" ∈ gw := in_gw 874 (by decide +kernel) rfl
theorem k_f_M_26 : Cond.fieldLink R_M 26 "GrammarLinesModel" "tokenMany" "[I" ∈ gw := in_gw 854 (by decide +kernel) rfl
theorem k_f_M_266 : Cond.fieldLink R_M 266 "GrammarLinesModel" "tried" "I" ∈ gw := in_gw 889 (by decide +kernel) rfl
theorem k_f_M_269 : Cond.fieldLink R_M 269 "GrammarLinesModel" "lastError" "I" ∈ gw := in_gw 894 (by decide +kernel) rfl
theorem k_f_M_272 : Cond.fieldLink R_M 272 "GrammarLinesModel" "commandMany" "I" ∈ gw := in_gw 886 (by decide +kernel) rfl
theorem k_f_M_286 : Cond.fieldLink R_M 286 "GrammarLinesModel" "hasAction" "Z" ∈ gw := in_gw 898 (by decide +kernel) rfl
theorem k_f_M_29 : Cond.fieldLink R_M 29 "GrammarLinesModel" "tokenKind" "[I" ∈ gw := in_gw 855 (by decide +kernel) rfl
theorem k_f_M_290 : Cond.fieldLink R_M 290 "GrammarLinesModel" "againTo" "I" ∈ gw := in_gw 901 (by decide +kernel) rfl
theorem k_f_M_293 : Cond.fieldLink R_M 293 "GrammarLinesModel" "askedKind" "I" ∈ gw := in_gw 897 (by decide +kernel) rfl
theorem k_f_M_296 : Cond.fieldLink R_M 296 "GrammarLinesModel" "isAnswered" "Z" ∈ gw := in_gw 893 (by decide +kernel) rfl
theorem k_f_M_32 : Cond.fieldLink R_M 32 "GrammarLinesModel" "tokenOf" "[I" ∈ gw := in_gw 856 (by decide +kernel) rfl
theorem k_f_M_35 : Cond.fieldLink R_M 35 "GrammarLinesModel" "flagOf" "[I" ∈ gw := in_gw 858 (by decide +kernel) rfl
theorem k_f_M_38 : Cond.fieldLink R_M 38 "GrammarLinesModel" "nameMany" "[I" ∈ gw := in_gw 859 (by decide +kernel) rfl
theorem k_f_M_41 : Cond.fieldLink R_M 41 "GrammarLinesModel" "nameOf" "[I" ∈ gw := in_gw 860 (by decide +kernel) rfl
theorem k_f_M_44 : Cond.fieldLink R_M 44 "GrammarLinesModel" "pairNumber" "[I" ∈ gw := in_gw 862 (by decide +kernel) rfl
theorem k_f_M_47 : Cond.fieldLink R_M 47 "GrammarLinesModel" "pairWord" "[I" ∈ gw := in_gw 863 (by decide +kernel) rfl
theorem k_f_M_50 : Cond.fieldLink R_M 50 "GrammarLinesModel" "pairValue" "[I" ∈ gw := in_gw 864 (by decide +kernel) rfl
theorem k_f_M_53 : Cond.fieldLink R_M 53 "GrammarLinesModel" "input" "[I" ∈ gw := in_gw 866 (by decide +kernel) rfl
theorem k_f_M_56 : Cond.fieldLink R_M 56 "GrammarLinesModel" "row" "[I" ∈ gw := in_gw 867 (by decide +kernel) rfl
theorem k_f_M_59 : Cond.fieldLink R_M 59 "GrammarLinesModel" "toldWords" "[I" ∈ gw := in_gw 876 (by decide +kernel) rfl
theorem k_f_M_62 : Cond.fieldLink R_M 62 "GrammarLinesModel" "filledOnes" "[I" ∈ gw := in_gw 878 (by decide +kernel) rfl
theorem k_f_M_65 : Cond.fieldLink R_M 65 "GrammarLinesModel" "slotKind" "[I" ∈ gw := in_gw 880 (by decide +kernel) rfl
theorem k_f_M_68 : Cond.fieldLink R_M 68 "GrammarLinesModel" "slotAt" "[I" ∈ gw := in_gw 881 (by decide +kernel) rfl
theorem k_f_M_7 : Cond.fieldLink R_M 7 "GrammarLinesModel" "verbWord" "[I" ∈ gw := in_gw 848 (by decide +kernel) rfl
theorem k_f_M_71 : Cond.fieldLink R_M 71 "GrammarLinesModel" "slotThings" "[J" ∈ gw := in_gw 882 (by decide +kernel) rfl
theorem k_f_M_75 : Cond.fieldLink R_M 75 "GrammarLinesModel" "slotFrom" "[I" ∈ gw := in_gw 883 (by decide +kernel) rfl
theorem k_f_M_78 : Cond.fieldLink R_M 78 "GrammarLinesModel" "slotTo" "[I" ∈ gw := in_gw 884 (by decide +kernel) rfl
theorem k_f_M_81 : Cond.fieldLink R_M 81 "GrammarLinesModel" "slotNumber" "[I" ∈ gw := in_gw 885 (by decide +kernel) rfl
theorem k_f_M_84 : Cond.fieldLink R_M 84 "GrammarLinesModel" "command" "[I" ∈ gw := in_gw 887 (by decide +kernel) rfl
theorem k_f_M_87 : Cond.fieldLink R_M 87 "GrammarLinesModel" "triedLine" "[I" ∈ gw := in_gw 890 (by decide +kernel) rfl
theorem k_f_M_90 : Cond.fieldLink R_M 90 "GrammarLinesModel" "triedError" "[I" ∈ gw := in_gw 891 (by decide +kernel) rfl
theorem k_f_M_93 : Cond.fieldLink R_M 93 "GrammarLinesModel" "triedPlace" "[I" ∈ gw := in_gw 892 (by decide +kernel) rfl
theorem k_f_M_96 : Cond.fieldLink R_M 96 "GrammarLinesModel" "again" "[I" ∈ gw := in_gw 900 (by decide +kernel) rfl
theorem k_f_M_99 : Cond.fieldLink R_M 99 "GrammarLinesModel" "againMany" "I" ∈ gw := in_gw 899 (by decide +kernel) rfl
theorem k_f_Phrase_19 : Cond.fieldLink R_Phrase 19 "GrammarLines$Phrase" "its" "J" ∈ gw := in_gw 201 (by decide +kernel) rfl
theorem k_f_Phrase_22 : Cond.fieldLink R_Phrase 22 "GrammarLines$Phrase" "end" "I" ∈ gw := in_gw 204 (by decide +kernel) rfl
theorem k_f_Phrase_7 : Cond.fieldLink R_Phrase 7 "GrammarLines$Phrase" "things" "LGrammarLines$Things;" ∈ gw := in_gw 200 (by decide +kernel) rfl
theorem k_f_Report_14 : Cond.fieldLink R_Report 14 "GrammarLines$Report" "triedLines" "LGrammarLines$Row;" ∈ gw := in_gw 308 (by decide +kernel) rfl
theorem k_f_Report_20 : Cond.fieldLink R_Report 20 "GrammarLines$Report" "triedErrors" "LGrammarLines$Row;" ∈ gw := in_gw 310 (by decide +kernel) rfl
theorem k_f_Report_23 : Cond.fieldLink R_Report 23 "GrammarLines$Report" "triedPlaces" "LGrammarLines$Row;" ∈ gw := in_gw 312 (by decide +kernel) rfl
theorem k_f_Report_26 : Cond.fieldLink R_Report 26 "GrammarLines$Report" "question" "LGrammarLines$Row;" ∈ gw := in_gw 314 (by decide +kernel) rfl
theorem k_f_Report_29 : Cond.fieldLink R_Report 29 "GrammarLines$Report" "action" "I" ∈ gw := in_gw 316 (by decide +kernel) rfl
theorem k_f_Report_33 : Cond.fieldLink R_Report 33 "GrammarLines$Report" "place" "I" ∈ gw := in_gw 320 (by decide +kernel) rfl
theorem k_f_Report_36 : Cond.fieldLink R_Report 36 "GrammarLines$Report" "line" "I" ∈ gw := in_gw 322 (by decide +kernel) rfl
theorem k_f_Report_42 : Cond.fieldLink R_Report 42 "GrammarLines$Report" "error" "I" ∈ gw := in_gw 318 (by decide +kernel) rfl
theorem k_f_Report_71 : Cond.fieldLink R_Report 71 "GrammarLines$Report" "phraseEnd" "I" ∈ gw := in_gw 324 (by decide +kernel) rfl
theorem k_f_Row_15 : Cond.fieldLink R_Row 15 "GrammarLines$Row" "items" "[I" ∈ gw := in_gw 128 (by decide +kernel) rfl
theorem k_f_Row_21 : Cond.fieldLink R_Row 21 "GrammarLines$Row" "size" "I" ∈ gw := in_gw 129 (by decide +kernel) rfl
theorem k_f_Slot_14 : Cond.fieldLink R_Slot 14 "GrammarLines$Slot" "items" "LGrammarLines$Row;" ∈ gw := in_gw 229 (by decide +kernel) rfl
theorem k_f_Slot_20 : Cond.fieldLink R_Slot 20 "GrammarLines$Slot" "kind" "I" ∈ gw := in_gw 232 (by decide +kernel) rfl
theorem k_f_Slot_24 : Cond.fieldLink R_Slot 24 "GrammarLines$Slot" "place" "I" ∈ gw := in_gw 235 (by decide +kernel) rfl
theorem k_f_Slot_30 : Cond.fieldLink R_Slot 30 "GrammarLines$Slot" "things" "J" ∈ gw := in_gw 237 (by decide +kernel) rfl
theorem k_f_Things_15 : Cond.fieldLink R_Things 15 "GrammarLines$Things" "nameCounts" "[I" ∈ gw := in_gw 86 (by decide +kernel) rfl
theorem k_f_Things_18 : Cond.fieldLink R_Things 18 "GrammarLines$Things" "names" "[I" ∈ gw := in_gw 87 (by decide +kernel) rfl
theorem k_f_Things_21 : Cond.fieldLink R_Things 21 "GrammarLines$Things" "count" "I" ∈ gw := in_gw 88 (by decide +kernel) rfl
theorem k_f_Things_41 : Cond.fieldLink R_Things 41 "GrammarLines$Things" "inScope" "J" ∈ gw := in_gw 90 (by decide +kernel) rfl
theorem k_f_Things_45 : Cond.fieldLink R_Things 45 "GrammarLines$Things" "held" "J" ∈ gw := in_gw 91 (by decide +kernel) rfl
theorem k_f_Things_48 : Cond.fieldLink R_Things 48 "GrammarLines$Things" "worn" "J" ∈ gw := in_gw 92 (by decide +kernel) rfl
theorem k_f_Things_51 : Cond.fieldLink R_Things 51 "GrammarLines$Things" "creatures" "J" ∈ gw := in_gw 93 (by decide +kernel) rfl
theorem k_f_Things_9 : Cond.fieldLink R_Things 9 "GrammarLines$Things" "flagsOf" "[I" ∈ gw := in_gw 85 (by decide +kernel) rfl
theorem k_f_Trial_12 : Cond.fieldLink R_Trial 12 "GrammarLines$Trial" "first" "LGrammarLines$Slot;" ∈ gw := in_gw 258 (by decide +kernel) rfl
theorem k_f_Trial_18 : Cond.fieldLink R_Trial 18 "GrammarLines$Trial" "second" "LGrammarLines$Slot;" ∈ gw := in_gw 260 (by decide +kernel) rfl
theorem k_f_Trial_26 : Cond.fieldLink R_Trial 26 "GrammarLines$Trial" "filled" "LGrammarLines$Row;" ∈ gw := in_gw 262 (by decide +kernel) rfl
theorem k_f_Trial_30 : Cond.fieldLink R_Trial 30 "GrammarLines$Trial" "question" "LGrammarLines$Row;" ∈ gw := in_gw 264 (by decide +kernel) rfl
theorem k_f_Trial_33 : Cond.fieldLink R_Trial 33 "GrammarLines$Trial" "line" "I" ∈ gw := in_gw 266 (by decide +kernel) rfl
theorem k_f_Trial_37 : Cond.fieldLink R_Trial 37 "GrammarLines$Trial" "place" "I" ∈ gw := in_gw 271 (by decide +kernel) rfl
theorem k_f_Trial_40 : Cond.fieldLink R_Trial 40 "GrammarLines$Trial" "things" "LGrammarLines$Things;" ∈ gw := in_gw 252 (by decide +kernel) rfl
theorem k_f_Trial_44 : Cond.fieldLink R_Trial 44 "GrammarLines$Trial" "lines" "LGrammarLines$Lines;" ∈ gw := in_gw 253 (by decide +kernel) rfl
theorem k_f_Trial_48 : Cond.fieldLink R_Trial 48 "GrammarLines$Trial" "values" "LGrammarLines$Values;" ∈ gw := in_gw 254 (by decide +kernel) rfl
theorem k_f_Trial_52 : Cond.fieldLink R_Trial 52 "GrammarLines$Trial" "words" "LGrammarLines$Row;" ∈ gw := in_gw 255 (by decide +kernel) rfl
theorem k_f_Trial_60 : Cond.fieldLink R_Trial 60 "GrammarLines$Trial" "phrase" "LGrammarLines$Phrase;" ∈ gw := in_gw 256 (by decide +kernel) rfl
theorem k_f_Trial_76 : Cond.fieldLink R_Trial 76 "GrammarLines$Trial" "error" "I" ∈ gw := in_gw 269 (by decide +kernel) rfl
theorem k_f_Trial_83 : Cond.fieldLink R_Trial 83 "GrammarLines$Trial" "cursor" "I" ∈ gw := in_gw 268 (by decide +kernel) rfl
theorem k_f_Values_14 : Cond.fieldLink R_Values 14 "GrammarLines$Values" "customs" "LGrammarLines$Row;" ∈ gw := in_gw 182 (by decide +kernel) rfl
theorem k_f_Values_20 : Cond.fieldLink R_Values 20 "GrammarLines$Values" "words" "LGrammarLines$Row;" ∈ gw := in_gw 183 (by decide +kernel) rfl
theorem k_f_Values_23 : Cond.fieldLink R_Values 23 "GrammarLines$Values" "values" "LGrammarLines$Row;" ∈ gw := in_gw 184 (by decide +kernel) rfl
theorem k_f_Verbs_14 : Cond.fieldLink R_Verbs 14 "GrammarLines$Verbs" "words" "LGrammarLines$Row;" ∈ gw := in_gw 135 (by decide +kernel) rfl
theorem k_f_Verbs_20 : Cond.fieldLink R_Verbs 20 "GrammarLines$Verbs" "owners" "LGrammarLines$Row;" ∈ gw := in_gw 136 (by decide +kernel) rfl
theorem k_f_Verbs_23 : Cond.fieldLink R_Verbs 23 "GrammarLines$Verbs" "count" "I" ∈ gw := in_gw 137 (by decide +kernel) rfl
theorem k_fn_G_194 : Cond.fieldLinkNest R_G 194 "GrammarLines$Report" "error" "I" "GrammarLines" ∈ nw := in_nw 319 (by decide +kernel) rfl
theorem k_fn_G_197 : Cond.fieldLinkNest R_G 197 "GrammarLines$Report" "question" "LGrammarLines$Row;" "GrammarLines" ∈ nw := in_nw 315 (by decide +kernel) rfl
theorem k_fn_G_200 : Cond.fieldLinkNest R_G 200 "GrammarLines$Report" "phraseEnd" "I" "GrammarLines" ∈ nw := in_nw 325 (by decide +kernel) rfl
theorem k_fn_G_210 : Cond.fieldLinkNest R_G 210 "GrammarLines$Report" "action" "I" "GrammarLines" ∈ nw := in_nw 317 (by decide +kernel) rfl
theorem k_fn_G_213 : Cond.fieldLinkNest R_G 213 "GrammarLines$Report" "line" "I" "GrammarLines" ∈ nw := in_nw 323 (by decide +kernel) rfl
theorem k_fn_G_222 : Cond.fieldLinkNest R_G 222 "GrammarLines$Trial" "first" "LGrammarLines$Slot;" "GrammarLines" ∈ nw := in_nw 259 (by decide +kernel) rfl
theorem k_fn_G_226 : Cond.fieldLinkNest R_G 226 "GrammarLines$Trial" "second" "LGrammarLines$Slot;" "GrammarLines" ∈ nw := in_nw 261 (by decide +kernel) rfl
theorem k_fn_G_229 : Cond.fieldLinkNest R_G 229 "GrammarLines$Slot" "kind" "I" "GrammarLines" ∈ nw := in_nw 234 (by decide +kernel) rfl
theorem k_fn_G_234 : Cond.fieldLinkNest R_G 234 "GrammarLines$Slot" "items" "LGrammarLines$Row;" "GrammarLines" ∈ nw := in_nw 231 (by decide +kernel) rfl
theorem k_fn_G_237 : Cond.fieldLinkNest R_G 237 "GrammarLines$Trial" "filled" "LGrammarLines$Row;" "GrammarLines" ∈ nw := in_nw 263 (by decide +kernel) rfl
theorem k_fn_G_240 : Cond.fieldLinkNest R_G 240 "GrammarLines$Report" "place" "I" "GrammarLines" ∈ nw := in_nw 321 (by decide +kernel) rfl
theorem k_fn_G_243 : Cond.fieldLinkNest R_G 243 "GrammarLines$Report" "triedLines" "LGrammarLines$Row;" "GrammarLines" ∈ nw := in_nw 309 (by decide +kernel) rfl
theorem k_fn_G_249 : Cond.fieldLinkNest R_G 249 "GrammarLines$Report" "triedErrors" "LGrammarLines$Row;" "GrammarLines" ∈ nw := in_nw 311 (by decide +kernel) rfl
theorem k_fn_G_252 : Cond.fieldLinkNest R_G 252 "GrammarLines$Report" "triedPlaces" "LGrammarLines$Row;" "GrammarLines" ∈ nw := in_nw 313 (by decide +kernel) rfl
theorem k_fn_G_258 : Cond.fieldLinkNest R_G 258 "GrammarLines$Phrase" "its" "J" "GrammarLines" ∈ nw := in_nw 203 (by decide +kernel) rfl
theorem k_fn_G_268 : Cond.fieldLinkNest R_G 268 "GrammarLines$Things" "creatures" "J" "GrammarLines" ∈ nw := in_nw 94 (by decide +kernel) rfl
theorem k_fn_G_271 : Cond.fieldLinkNest R_G 271 "GrammarLines$Phrase" "end" "I" "GrammarLines" ∈ nw := in_nw 207 (by decide +kernel) rfl
theorem k_fn_Phrase_13 : Cond.fieldLinkNest R_Phrase 13 "GrammarLines$Things" "inScope" "J" "GrammarLines" ∈ nw := in_nw 89 (by decide +kernel) rfl
theorem k_fn_Report_45 : Cond.fieldLinkNest R_Report 45 "GrammarLines$Trial" "line" "I" "GrammarLines" ∈ nw := in_nw 267 (by decide +kernel) rfl
theorem k_fn_Report_51 : Cond.fieldLinkNest R_Report 51 "GrammarLines$Trial" "error" "I" "GrammarLines" ∈ nw := in_nw 270 (by decide +kernel) rfl
theorem k_fn_Report_52 : Cond.fieldLinkNest R_Report 52 "GrammarLines$Trial" "place" "I" "GrammarLines" ∈ nw := in_nw 272 (by decide +kernel) rfl
theorem k_fn_Report_57 : Cond.fieldLinkNest R_Report 57 "GrammarLines$Trial" "question" "LGrammarLines$Row;" "GrammarLines" ∈ nw := in_nw 265 (by decide +kernel) rfl
theorem k_fn_Report_62 : Cond.fieldLinkNest R_Report 62 "GrammarLines$Trial" "phrase" "LGrammarLines$Phrase;" "GrammarLines" ∈ nw := in_nw 257 (by decide +kernel) rfl
theorem k_fn_Report_66 : Cond.fieldLinkNest R_Report 66 "GrammarLines$Phrase" "end" "I" "GrammarLines" ∈ nw := in_nw 205 (by decide +kernel) rfl
theorem k_fn_Trial_131 : Cond.fieldLinkNest R_Trial 131 "GrammarLines$Slot" "place" "I" "GrammarLines" ∈ nw := in_nw 236 (by decide +kernel) rfl
theorem k_fn_Trial_144 : Cond.fieldLinkNest R_Trial 144 "GrammarLines$Slot" "items" "LGrammarLines$Row;" "GrammarLines" ∈ nw := in_nw 230 (by decide +kernel) rfl
theorem k_fn_Trial_159 : Cond.fieldLinkNest R_Trial 159 "GrammarLines$Slot" "things" "J" "GrammarLines" ∈ nw := in_nw 238 (by decide +kernel) rfl
theorem k_fn_Trial_168 : Cond.fieldLinkNest R_Trial 168 "GrammarLines$Phrase" "its" "J" "GrammarLines" ∈ nw := in_nw 202 (by decide +kernel) rfl
theorem k_fn_Trial_186 : Cond.fieldLinkNest R_Trial 186 "GrammarLines$Phrase" "end" "I" "GrammarLines" ∈ nw := in_nw 206 (by decide +kernel) rfl
theorem k_fn_Trial_64 : Cond.fieldLinkNest R_Trial 64 "GrammarLines$Slot" "kind" "I" "GrammarLines" ∈ nw := in_nw 233 (by decide +kernel) rfl
theorem k_initialized_JMath : Cond.initialized "java/lang/Math" ∈ gw := in_gw 62 (by decide +kernel) rfl
theorem k_m_G_102 : Cond.methodLink R_G 102 y_Verbs_has ∈ gw := in_gw 432 (by decide +kernel) rfl
theorem k_m_G_105 : Cond.methodLink R_G 105 y_Verbs_addWord ∈ gw := in_gw 436 (by decide +kernel) rfl
theorem k_m_G_109 : Cond.methodLink R_G 109 y_Lines_isFull ∈ gw := in_gw 441 (by decide +kernel) rfl
theorem k_m_G_110 : Cond.methodLink R_G 110 y_Lines_add ∈ gw := in_gw 445 (by decide +kernel) rfl
theorem k_m_G_113 : Cond.methodLink R_G 113 y_Lines_has ∈ gw := in_gw 454 (by decide +kernel) rfl
theorem k_m_G_114 : Cond.methodLink R_G 114 y_G_mayBeToken ∈ gw := in_gw 458 (by decide +kernel) rfl
theorem k_m_G_118 : Cond.methodLink R_G 118 y_Lines_allows ∈ gw := in_gw 461 (by decide +kernel) rfl
theorem k_m_G_121 : Cond.methodLink R_G 121 y_Lines_kindsOf ∈ gw := in_gw 481 (by decide +kernel) rfl
theorem k_m_G_124 : Cond.methodLink R_G 124 y_Lines_addKind ∈ gw := in_gw 482 (by decide +kernel) rfl
theorem k_m_G_128 : Cond.methodLink R_G 128 y_G_mayBeFlags ∈ gw := in_gw 490 (by decide +kernel) rfl
theorem k_m_G_131 : Cond.methodLink R_G 131 y_Things_isFull ∈ gw := in_gw 493 (by decide +kernel) rfl
theorem k_m_G_132 : Cond.methodLink R_G 132 y_Things_add ∈ gw := in_gw 497 (by decide +kernel) rfl
theorem k_m_G_133 : Cond.methodLink R_G 133 y_Things_has ∈ gw := in_gw 518 (by decide +kernel) rfl
theorem k_m_G_134 : Cond.methodLink R_G 134 y_G_isPlainWord ∈ gw := in_gw 393 (by decide +kernel) rfl
theorem k_m_G_137 : Cond.methodLink R_G 137 y_Things_isNamed ∈ gw := in_gw 519 (by decide +kernel) rfl
theorem k_m_G_140 : Cond.methodLink R_G 140 y_Things_namesOf ∈ gw := in_gw 523 (by decide +kernel) rfl
theorem k_m_G_143 : Cond.methodLink R_G 143 y_Things_addName ∈ gw := in_gw 527 (by decide +kernel) rfl
theorem k_m_G_146 : Cond.methodLink R_G 146 y_Things_changeFlags ∈ gw := in_gw 537 (by decide +kernel) rfl
theorem k_m_G_149 : Cond.methodLink R_G 149 y_Values_find ∈ gw := in_gw 542 (by decide +kernel) rfl
theorem k_m_G_152 : Cond.methodLink R_G 152 y_Values_count ∈ gw := in_gw 552 (by decide +kernel) rfl
theorem k_m_G_156 : Cond.methodLink R_G 156 y_Values_put ∈ gw := in_gw 556 (by decide +kernel) rfl
theorem k_m_G_159 : Cond.methodLink R_G 159 y_G_isWord ∈ gw := in_gw 570 (by decide +kernel) rfl
theorem k_m_G_162 : Cond.methodLink R_G 162 y_Row_size ∈ gw := in_gw 573 (by decide +kernel) rfl
theorem k_m_G_165 : Cond.methodLink R_G 165 y_Row_add ∈ gw := in_gw 574 (by decide +kernel) rfl
theorem k_m_G_167 : Cond.methodLink R_G 167 y_Row_empty ∈ gw := in_gw 579 (by decide +kernel) rfl
theorem k_m_G_170 : Cond.methodLink R_G 170 y_G_takeOrder ∈ gw := in_gw 587 (by decide +kernel) rfl
theorem k_m_G_173 : Cond.methodLink R_G 173 y_G_takeCommand ∈ gw := in_gw 619 (by decide +kernel) rfl
theorem k_m_G_176 : Cond.methodLink R_G 176 y_G_chooseCommand ∈ gw := in_gw 630 (by decide +kernel) rfl
theorem k_m_G_179 : Cond.methodLink R_G 179 y_G_tryCommand ∈ gw := in_gw 641 (by decide +kernel) rfl
theorem k_m_G_182 : Cond.methodLink R_G 182 y_Report_begin ∈ gw := in_gw 645 (by decide +kernel) rfl
theorem k_m_G_185 : Cond.methodLink R_G 185 y_Report_fail ∈ gw := in_gw 787 (by decide +kernel) rfl
theorem k_m_G_189 : Cond.methodLink R_G 189 y_Report_isAsked ∈ gw := in_gw 788 (by decide +kernel) rfl
theorem k_m_G_192 : Cond.methodLink R_G 192 y_Verbs_find ∈ gw := in_gw 396 (by decide +kernel) rfl
theorem k_m_G_203 : Cond.methodLink R_G 203 y_Row_insert ∈ gw := in_gw 796 (by decide +kernel) rfl
theorem k_m_G_207 : Cond.methodLink R_G 207 y_Row_at ∈ gw := in_gw 607 (by decide +kernel) rfl
theorem k_m_G_216 : Cond.methodLink R_G 216 y_Lines_isReversed ∈ gw := in_gw 804 (by decide +kernel) rfl
theorem k_m_G_219 : Cond.methodLink R_G 219 y_Trial_slotsTaken ∈ gw := in_gw 808 (by decide +kernel) rfl
theorem k_m_G_246 : Cond.methodLink R_G 246 y_Verbs_count ∈ gw := in_gw 824 (by decide +kernel) rfl
theorem k_m_G_247 : Cond.methodLink R_G 247 y_Lines_count ∈ gw := in_gw 650 (by decide +kernel) rfl
theorem k_m_G_248 : Cond.methodLink R_G 248 y_Things_count ∈ gw := in_gw 828 (by decide +kernel) rfl
theorem k_m_G_255 : Cond.methodLink R_G 255 y_Phrase_find ∈ gw := in_gw 591 (by decide +kernel) rfl
theorem k_m_G_262 : Cond.methodLink R_G 262 y_JLong_bitCount ∈ gw := in_gw 601 (by decide +kernel) rfl
theorem k_m_G_274 : Cond.methodLink R_G 274 y_Row_dropFirst ∈ gw := in_gw 608 (by decide +kernel) rfl
theorem k_m_G_277 : Cond.methodLink R_G 277 y_Things_firstOf ∈ gw := in_gw 615 (by decide +kernel) rfl
theorem k_m_G_280 : Cond.methodLink R_G 280 y_G_endsCommand ∈ gw := in_gw 623 (by decide +kernel) rfl
theorem k_m_G_283 : Cond.methodLink R_G 283 y_G_isJoin ∈ gw := in_gw 627 (by decide +kernel) rfl
theorem k_m_G_286 : Cond.methodLink R_G 286 y_Row_put ∈ gw := in_gw 634 (by decide +kernel) rfl
theorem k_m_G_288 : Cond.methodLink R_G 288 y_Row_become ∈ gw := in_gw 635 (by decide +kernel) rfl
theorem k_m_G_292 : Cond.methodLink R_G 292 y_Lines_verbOf ∈ gw := in_gw 654 (by decide +kernel) rfl
theorem k_m_G_295 : Cond.methodLink R_G 295 y_Trial_tryLine ∈ gw := in_gw 658 (by decide +kernel) rfl
theorem k_m_G_298 : Cond.methodLink R_G 298 y_Lines_actionOf ∈ gw := in_gw 773 (by decide +kernel) rfl
theorem k_m_G_301 : Cond.methodLink R_G 301 y_Report_note ∈ gw := in_gw 777 (by decide +kernel) rfl
theorem k_m_G_87 : Cond.methodLink R_G 87 y_G_mayBeVerbWord ∈ gw := in_gw 389 (by decide +kernel) rfl
theorem k_m_G_91 : Cond.methodLink R_G 91 y_Verbs_isFull ∈ gw := in_gw 408 (by decide +kernel) rfl
theorem k_m_G_95 : Cond.methodLink R_G 95 y_Verbs_hasAllWords ∈ gw := in_gw 412 (by decide +kernel) rfl
theorem k_m_G_98 : Cond.methodLink R_G 98 y_Verbs_add ∈ gw := in_gw 416 (by decide +kernel) rfl
theorem k_m_Lines_35 : Cond.methodLink R_Lines 35 y_Lines_isFull ∈ gw := in_gw 449 (by decide +kernel) rfl
theorem k_m_Lines_39 : Cond.methodLink R_Lines 39 y_Lines_has ∈ gw := in_gw 469 (by decide +kernel) rfl
theorem k_m_Lines_43 : Cond.methodLink R_Lines 43 y_Lines_kindsOf ∈ gw := in_gw 465 (by decide +kernel) rfl
theorem k_m_Lines_47 : Cond.methodLink R_Lines 47 y_Lines_kindAt ∈ gw := in_gw 470 (by decide +kernel) rfl
theorem k_m_Lines_54 : Cond.methodLink R_Lines 54 y_Lines_slotsOf ∈ gw := in_gw 477 (by decide +kernel) rfl
theorem k_m_Lines_57 : Cond.methodLink R_Lines 57 y_Lines_ofAt ∈ gw := in_gw 718 (by decide +kernel) rfl
theorem k_m_M_112 : Cond.methodLink R_M 112 y_M_within ∈ gw := in_gw 1023 (by decide +kernel) rfl
theorem k_m_M_119 : Cond.methodLink R_M 119 y_M_isPlain ∈ gw := in_gw 1020 (by decide +kernel) rfl
theorem k_m_M_123 : Cond.methodLink R_M 123 y_M_verbBy ∈ gw := in_gw 1026 (by decide +kernel) rfl
theorem k_m_M_130 : Cond.methodLink R_M 130 y_M_isOfVerb ∈ gw := in_gw 1030 (by decide +kernel) rfl
theorem k_m_M_137 : Cond.methodLink R_M 137 y_M_isSlot ∈ gw := in_gw 1046 (by decide +kernel) rfl
theorem k_m_M_143 : Cond.methodLink R_M 143 y_M_hasName ∈ gw := in_gw 1057 (by decide +kernel) rfl
theorem k_m_M_150 : Cond.methodLink R_M 150 y_M_pairOf ∈ gw := in_gw 1069 (by decide +kernel) rfl
theorem k_m_M_154 : Cond.methodLink R_M 154 y_M_isAny ∈ gw := in_gw 1077 (by decide +kernel) rfl
theorem k_m_M_160 : Cond.methodLink R_M 160 y_M_isHeld ∈ gw := in_gw 1104 (by decide +kernel) rfl
theorem k_m_M_163 : Cond.methodLink R_M 163 y_M_has ∈ gw := in_gw 1112 (by decide +kernel) rfl
theorem k_m_M_174 : Cond.methodLink R_M 174 y_M_isInScope ∈ gw := in_gw 1100 (by decide +kernel) rfl
theorem k_m_M_177 : Cond.methodLink R_M 177 y_M_stands ∈ gw := in_gw 1123 (by decide +kernel) rfl
theorem k_m_M_189 : Cond.methodLink R_M 189 y_M_next ∈ gw := in_gw 1167 (by decide +kernel) rfl
theorem k_m_M_198 : Cond.methodLink R_M 198 y_M_ends ∈ gw := in_gw 1143 (by decide +kernel) rfl
theorem k_m_M_201 : Cond.methodLink R_M 201 y_M_takes ∈ gw := in_gw 1171 (by decide +kernel) rfl
theorem k_m_M_205 : Cond.methodLink R_M 205 y_M_fails ∈ gw := in_gw 1147 (by decide +kernel) rfl
theorem k_m_M_208 : Cond.methodLink R_M 208 y_M_others ∈ gw := in_gw 1200 (by decide +kernel) rfl
theorem k_m_M_211 : Cond.methodLink R_M 211 y_M_isOneOf ∈ gw := in_gw 1175 (by decide +kernel) rfl
theorem k_m_M_214 : Cond.methodLink R_M 214 y_M_slot ∈ gw := in_gw 1163 (by decide +kernel) rfl
theorem k_m_M_217 : Cond.methodLink R_M 217 y_M_takesOne ∈ gw := in_gw 1179 (by decide +kernel) rfl
theorem k_m_M_220 : Cond.methodLink R_M 220 y_M_joins ∈ gw := in_gw 1183 (by decide +kernel) rfl
theorem k_m_M_223 : Cond.methodLink R_M 223 y_M_takesSeveral ∈ gw := in_gw 1187 (by decide +kernel) rfl
theorem k_m_M_226 : Cond.methodLink R_M 226 y_M_takesTopic ∈ gw := in_gw 1196 (by decide +kernel) rfl
theorem k_m_M_229 : Cond.methodLink R_M 229 y_M_phrase ∈ gw := in_gw 1096 (by decide +kernel) rfl
theorem k_m_M_232 : Cond.methodLink R_M 232 y_M_isWorn ∈ gw := in_gw 1159 (by decide +kernel) rfl
theorem k_m_M_235 : Cond.methodLink R_M 235 y_M_isCreature ∈ gw := in_gw 1119 (by decide +kernel) rfl
theorem k_m_M_238 : Cond.methodLink R_M 238 y_M_manyOf ∈ gw := in_gw 1108 (by decide +kernel) rfl
theorem k_m_M_250 : Cond.methodLink R_M 250 y_M_lacksOne ∈ gw := in_gw 1192 (by decide +kernel) rfl
theorem k_m_M_253 : Cond.methodLink R_M 253 y_M_isFilled ∈ gw := in_gw 1151 (by decide +kernel) rfl
theorem k_m_M_259 : Cond.methodLink R_M 259 y_M_goesWith ∈ gw := in_gw 1155 (by decide +kernel) rfl
theorem k_m_M_262 : Cond.methodLink R_M 262 y_M_thingOf ∈ gw := in_gw 1115 (by decide +kernel) rfl
theorem k_m_M_275 : Cond.methodLink R_M 275 y_M_take ∈ gw := in_gw 1092 (by decide +kernel) rfl
theorem k_m_M_279 : Cond.methodLink R_M 279 y_M_tries ∈ gw := in_gw 1139 (by decide +kernel) rfl
theorem k_m_M_283 : Cond.methodLink R_M 283 y_M_without ∈ gw := in_gw 1204 (by decide +kernel) rfl
theorem k_m_M_299 : Cond.methodLink R_M 299 y_M_off ∈ gw := in_gw 1127 (by decide +kernel) rfl
theorem k_m_M_302 : Cond.methodLink R_M 302 y_M_order ∈ gw := in_gw 1088 (by decide +kernel) rfl
theorem k_m_M_305 : Cond.methodLink R_M 305 y_M_begins ∈ gw := in_gw 1131 (by decide +kernel) rfl
theorem k_m_M_308 : Cond.methodLink R_M 308 y_M_isTried ∈ gw := in_gw 1135 (by decide +kernel) rfl
theorem k_m_M_312 : Cond.methodLink R_M 312 y_M_parse ∈ gw := in_gw 1212 (by decide +kernel) rfl
theorem k_m_M_315 : Cond.methodLink R_M 315 y_M_comesIn ∈ gw := in_gw 1213 (by decide +kernel) rfl
theorem k_m_Phrase_26 : Cond.methodLink R_Phrase 26 y_Row_size ∈ gw := in_gw 595 (by decide +kernel) rfl
theorem k_m_Phrase_32 : Cond.methodLink R_Phrase 32 y_Row_at ∈ gw := in_gw 596 (by decide +kernel) rfl
theorem k_m_Phrase_36 : Cond.methodLink R_Phrase 36 y_Things_namedOf ∈ gw := in_gw 597 (by decide +kernel) rfl
theorem k_m_Report_39 : Cond.methodLink R_Report 39 y_Row_empty ∈ gw := in_gw 649 (by decide +kernel) rfl
theorem k_m_Report_48 : Cond.methodLink R_Report 48 y_Row_add ∈ gw := in_gw 781 (by decide +kernel) rfl
theorem k_m_Report_53 : Cond.methodLink R_Report 53 y_Report_fail ∈ gw := in_gw 782 (by decide +kernel) rfl
theorem k_m_Report_58 : Cond.methodLink R_Report 58 y_Row_become ∈ gw := in_gw 786 (by decide +kernel) rfl
theorem k_m_Row_25 : Cond.methodLink R_Row 25 Lib.Math.min.name ∈ gw := in_gw 612 (by decide +kernel) rfl
theorem k_m_Row_28 : Cond.methodLink R_Row 28 y_Row_empty ∈ gw := in_gw 639 (by decide +kernel) rfl
theorem k_m_Row_31 : Cond.methodLink R_Row 31 y_Row_add ∈ gw := in_gw 640 (by decide +kernel) rfl
theorem k_m_Row_9 : Cond.methodLink R_Row 9 Lib.Math.max.name ∈ gw := in_gw 125 (by decide +kernel) rfl
theorem k_m_Slot_27 : Cond.methodLink R_Slot 27 y_Row_empty ∈ gw := in_gw 670 (by decide +kernel) rfl
theorem k_m_Things_25 : Cond.methodLink R_Things 25 y_Things_isFull ∈ gw := in_gw 501 (by decide +kernel) rfl
theorem k_m_Things_29 : Cond.methodLink R_Things 29 y_Things_changeFlags ∈ gw := in_gw 502 (by decide +kernel) rfl
theorem k_m_Things_33 : Cond.methodLink R_Things 33 y_Things_has ∈ gw := in_gw 506 (by decide +kernel) rfl
theorem k_m_Things_37 : Cond.methodLink R_Things 37 y_Things_withAnyOf ∈ gw := in_gw 510 (by decide +kernel) rfl
theorem k_m_Things_54 : Cond.methodLink R_Things 54 y_Things_isNamed ∈ gw := in_gw 531 (by decide +kernel) rfl
theorem k_m_Things_58 : Cond.methodLink R_Things 58 y_Things_namesOf ∈ gw := in_gw 532 (by decide +kernel) rfl
theorem k_m_Trial_102 : Cond.methodLink R_Trial 102 y_Lines_ofAt ∈ gw := in_gw 691 (by decide +kernel) rfl
theorem k_m_Trial_105 : Cond.methodLink R_Trial 105 y_Trial_takeCustom ∈ gw := in_gw 727 (by decide +kernel) rfl
theorem k_m_Trial_112 : Cond.methodLink R_Trial 112 y_Trial_takeOne ∈ gw := in_gw 735 (by decide +kernel) rfl
theorem k_m_Trial_115 : Cond.methodLink R_Trial 115 y_Row_at ∈ gw := in_gw 713 (by decide +kernel) rfl
theorem k_m_Trial_118 : Cond.methodLink R_Trial 118 y_Trial_takeAll ∈ gw := in_gw 753 (by decide +kernel) rfl
theorem k_m_Trial_121 : Cond.methodLink R_Trial 121 y_Trial_takeList ∈ gw := in_gw 761 (by decide +kernel) rfl
theorem k_m_Trial_124 : Cond.methodLink R_Trial 124 y_Trial_finish ∈ gw := in_gw 765 (by decide +kernel) rfl
theorem k_m_Trial_127 : Cond.methodLink R_Trial 127 y_Slot_empty ∈ gw := in_gw 666 (by decide +kernel) rfl
theorem k_m_Trial_130 : Cond.methodLink R_Trial 130 y_Row_empty ∈ gw := in_gw 671 (by decide +kernel) rfl
theorem k_m_Trial_132 : Cond.methodLink R_Trial 132 y_Lines_takes ∈ gw := in_gw 714 (by decide +kernel) rfl
theorem k_m_Trial_136 : Cond.methodLink R_Trial 136 y_Trial_fail ∈ gw := in_gw 683 (by decide +kernel) rfl
theorem k_m_Trial_140 : Cond.methodLink R_Trial 140 y_Trial_openSlot ∈ gw := in_gw 704 (by decide +kernel) rfl
theorem k_m_Trial_147 : Cond.methodLink R_Trial 147 y_Row_add ∈ gw := in_gw 695 (by decide +kernel) rfl
theorem k_m_Trial_150 : Cond.methodLink R_Trial 150 y_Values_find ∈ gw := in_gw 731 (by decide +kernel) rfl
theorem k_m_Trial_155 : Cond.methodLink R_Trial 155 y_Trial_findOne ∈ gw := in_gw 739 (by decide +kernel) rfl
theorem k_m_Trial_165 : Cond.methodLink R_Trial 165 y_Phrase_find ∈ gw := in_gw 743 (by decide +kernel) rfl
theorem k_m_Trial_171 : Cond.methodLink R_Trial 171 y_Things_countedFor ∈ gw := in_gw 744 (by decide +kernel) rfl
theorem k_m_Trial_176 : Cond.methodLink R_Trial 176 y_JLong_bitCount ∈ gw := in_gw 703 (by decide +kernel) rfl
theorem k_m_Trial_182 : Cond.methodLink R_Trial 182 y_Row_addThings ∈ gw := in_gw 748 (by decide +kernel) rfl
theorem k_m_Trial_189 : Cond.methodLink R_Trial 189 y_Things_allFor ∈ gw := in_gw 757 (by decide +kernel) rfl
theorem k_m_Trial_194 : Cond.methodLink R_Trial 194 y_Lines_slotFrom ∈ gw := in_gw 679 (by decide +kernel) rfl
theorem k_m_Trial_197 : Cond.methodLink R_Trial 197 y_Trial_fillFrom ∈ gw := in_gw 687 (by decide +kernel) rfl
theorem k_m_Trial_203 : Cond.methodLink R_Trial 203 y_Things_fillersFor ∈ gw := in_gw 697 (by decide +kernel) rfl
theorem k_m_Trial_206 : Cond.methodLink R_Trial 206 y_Things_firstOf ∈ gw := in_gw 708 (by decide +kernel) rfl
theorem k_m_Trial_209 : Cond.methodLink R_Trial 209 y_Trial_takeOut ∈ gw := in_gw 769 (by decide +kernel) rfl
theorem k_m_Trial_67 : Cond.methodLink R_Trial 67 y_Trial_begin ∈ gw := in_gw 662 (by decide +kernel) rfl
theorem k_m_Trial_70 : Cond.methodLink R_Trial 70 y_Lines_kindsOf ∈ gw := in_gw 672 (by decide +kernel) rfl
theorem k_m_Trial_79 : Cond.methodLink R_Trial 79 y_Lines_kindAt ∈ gw := in_gw 673 (by decide +kernel) rfl
theorem k_m_Trial_86 : Cond.methodLink R_Trial 86 y_Row_size ∈ gw := in_gw 674 (by decide +kernel) rfl
theorem k_m_Trial_90 : Cond.methodLink R_Trial 90 y_Trial_fillOrAsk ∈ gw := in_gw 675 (by decide +kernel) rfl
theorem k_m_Trial_93 : Cond.methodLink R_Trial 93 y_Trial_takeWord ∈ gw := in_gw 709 (by decide +kernel) rfl
theorem k_m_Trial_96 : Cond.methodLink R_Trial 96 y_Trial_takeTopic ∈ gw := in_gw 719 (by decide +kernel) rfl
theorem k_m_Trial_99 : Cond.methodLink R_Trial 99 y_Trial_takeNumber ∈ gw := in_gw 723 (by decide +kernel) rfl
theorem k_m_Values_26 : Cond.methodLink R_Values 26 y_Row_size ∈ gw := in_gw 550 (by decide +kernel) rfl
theorem k_m_Values_30 : Cond.methodLink R_Values 30 y_Row_at ∈ gw := in_gw 551 (by decide +kernel) rfl
theorem k_m_Values_34 : Cond.methodLink R_Values 34 y_Values_indexOf ∈ gw := in_gw 546 (by decide +kernel) rfl
theorem k_m_Values_38 : Cond.methodLink R_Values 38 y_Row_add ∈ gw := in_gw 560 (by decide +kernel) rfl
theorem k_m_Values_41 : Cond.methodLink R_Values 41 y_Row_put ∈ gw := in_gw 561 (by decide +kernel) rfl
theorem k_m_Values_45 : Cond.methodLink R_Values 45 y_Values_count ∈ gw := in_gw 565 (by decide +kernel) rfl
theorem k_m_Verbs_27 : Cond.methodLink R_Verbs 27 y_Row_size ∈ gw := in_gw 400 (by decide +kernel) rfl
theorem k_m_Verbs_31 : Cond.methodLink R_Verbs 31 y_Verbs_addWord ∈ gw := in_gw 420 (by decide +kernel) rfl
theorem k_m_Verbs_35 : Cond.methodLink R_Verbs 35 y_Row_add ∈ gw := in_gw 424 (by decide +kernel) rfl
theorem k_m_Verbs_38 : Cond.methodLink R_Verbs 38 y_Row_at ∈ gw := in_gw 404 (by decide +kernel) rfl
theorem k_mn_Lines_51 : Cond.methodLinkNest R_Lines 51 y_G_isSlot "GrammarLines" ∈ nw := in_nw 474 (by decide +kernel) rfl
theorem k_mn_Trial_108 : Cond.methodLinkNest R_Trial 108 y_G_isOfOneThing "GrammarLines" ∈ nw := in_nw 732 (by decide +kernel) rfl
theorem k_mn_Trial_162 : Cond.methodLinkNest R_Trial 162 y_G_isJoin "GrammarLines" ∈ nw := in_nw 752 (by decide +kernel) rfl
theorem k_mn_Trial_200 : Cond.methodLinkNest R_Trial 200 y_G_isSlot "GrammarLines" ∈ nw := in_nw 696 (by decide +kernel) rfl
theorem k_static_JMath_max : Cond.static Lib.Math.max.name ∈ gw := in_gw 126 (by decide +kernel) rfl
theorem k_static_JMath_min : Cond.static Lib.Math.min.name ∈ gw := in_gw 613 (by decide +kernel) rfl
end
section
def xcap (r : Nat) : Nat := [60, 60, 40, 40, 40, 60, 60, 60, 60, 60, 60, 8, 40, 60, 60, 60, 40].getD r 0
def xW (cI cZ cJ : ClassId) (ao aa : Nat → Nat) (S : St) : va_W := [(ao 0, .inr (0, [.ref (aa 0), .int (gI S 0)])), (ao 1, .inr (0, [.ref (aa 1), .int (gI S 1)])), (ao 2, .inr (0, [.ref (aa 2), .int (gI S 2)])), (ao 3, .inr (0, [.ref (aa 3), .int (gI S 3)])), (ao 4, .inr (0, [.ref (aa 4), .int (gI S 4)])), (ao 5, .inr (0, [.ref (aa 5), .int (gI S 5)])), (ao 6, .inr (0, [.ref (aa 6), .int (gI S 6)])), (ao 7, .inr (0, [.ref (aa 7), .int (gI S 7)])), (ao 8, .inr (0, [.ref (aa 8), .int (gI S 8)])), (ao 9, .inr (0, [.ref (aa 9), .int (gI S 9)])), (ao 10, .inr (0, [.ref (aa 10), .int (gI S 10)])), (ao 11, .inr (0, [.ref (aa 11), .int (gI S 11)])), (ao 12, .inr (0, [.ref (aa 12), .int (gI S 12)])), (ao 13, .inr (0, [.ref (aa 13), .int (gI S 13)])), (ao 14, .inr (0, [.ref (aa 14), .int (gI S 14)])), (ao 15, .inr (0, [.ref (aa 15), .int (gI S 15)])), (ao 16, .inr (0, [.ref (aa 16), .int (gI S 16)])), (ao 17, .inr (1, [.ref (ao 9), .int (gI S 17), .int (gI S 18), .long (gL S 0)])), (ao 18, .inr (1, [.ref (ao 10), .int (gI S 19), .int (gI S 20), .long (gL S 1)])), (ao 19, .inr (2, [.ref (ao 21), .long (gL S 2), .int (gI S 21)])), (ao 20, .inr (2, [.ref (ao 21), .long (gL S 3), .int (gI S 22)])), (ao 21, .inr (3, [.ref (aa 17), .ref (aa 18), .ref (aa 19), .int (gI S 23), .long (gL S 4), .long (gL S 5), .long (gL S 6), .long (gL S 7)])), (ao 22, .inr (4, [.ref (ao 0), .ref (ao 1), .int (gI S 24)])), (ao 23, .inr (5, [.ref (aa 20), .ref (aa 21), .ref (aa 22), .ref (aa 23), .ref (aa 24), .ref (aa 25), .int (gI S 25)])), (ao 24, .inr (6, [.ref (ao 2), .ref (ao 3), .ref (ao 4)])), (ao 25, .inr (7, [.ref (ao 21), .ref (ao 23), .ref (ao 24), .ref (ao 6), .ref (ao 20), .ref (ao 17), .ref (ao 18), .ref (ao 11), .ref (ao 12), .int (gI S 26), .int (gI S 27), .int (gI S 28), .int (gI S 29)])), (ao 26, .inr (8, [.ref (ao 13), .ref (ao 14), .ref (ao 15), .ref (ao 16), .int (gI S 30), .int (gI S 31), .int (gI S 32), .int (gI S 33), .int (gI S 34)])), (ao 27, .inr (9, [.ref (ao 21), .ref (ao 22), .ref (ao 23), .ref (ao 24), .ref (ao 5), .ref (ao 6), .ref (ao 7), .ref (ao 8), .ref (ao 19), .ref (ao 25), .ref (ao 26), .int (gI S 35), .int (gI S 36)])), (aa 0, .inl (cI, 60, .inl (gA S 0))), (aa 1, .inl (cI, 60, .inl (gA S 1))), (aa 2, .inl (cI, 40, .inl (gA S 2))), (aa 3, .inl (cI, 40, .inl (gA S 3))), (aa 4, .inl (cI, 40, .inl (gA S 4))), (aa 5, .inl (cI, 60, .inl (gA S 5))), (aa 6, .inl (cI, 60, .inl (gA S 6))), (aa 7, .inl (cI, 60, .inl (gA S 7))), (aa 8, .inl (cI, 60, .inl (gA S 8))), (aa 9, .inl (cI, 60, .inl (gA S 9))), (aa 10, .inl (cI, 60, .inl (gA S 10))), (aa 11, .inl (cI, 8, .inl (gA S 11))), (aa 12, .inl (cI, 40, .inl (gA S 12))), (aa 13, .inl (cI, 60, .inl (gA S 13))), (aa 14, .inl (cI, 60, .inl (gA S 14))), (aa 15, .inl (cI, 60, .inl (gA S 15))), (aa 16, .inl (cI, 40, .inl (gA S 16))), (aa 17, .inl (cI, 40, .inl (gA S 17))), (aa 18, .inl (cI, 40, .inl (gA S 18))), (aa 19, .inl (cI, 160, .inl (gA S 19))), (aa 20, .inl (cI, 60, .inl (gA S 20))), (aa 21, .inl (cI, 60, .inl (gA S 21))), (aa 22, .inl (cZ, 60, .inl (gA S 22))), (aa 23, .inl (cI, 60, .inl (gA S 23))), (aa 24, .inl (cI, 480, .inl (gA S 24))), (aa 25, .inl (cI, 480, .inl (gA S 25)))]
def xA (ao aa : Nat → Nat) : Nat → Prop := fun q => (∃ k, k < 28 ∧ q = ao k) ∨ ∃ k, k < 26 ∧ q = aa k
theorem xo_row {cI cZ cJ : ClassId} {ao aa : Nat → Nat} {S : St} : ∀ {r : Nat}, r < 17 → (xW cI cZ cJ ao aa S)[r]? = some (ao r, .inr (0, [.ref (aa r), .int (gI S r)]))
  | 0, _ => rfl
  | 1, _ => rfl
  | 2, _ => rfl
  | 3, _ => rfl
  | 4, _ => rfl
  | 5, _ => rfl
  | 6, _ => rfl
  | 7, _ => rfl
  | 8, _ => rfl
  | 9, _ => rfl
  | 10, _ => rfl
  | 11, _ => rfl
  | 12, _ => rfl
  | 13, _ => rfl
  | 14, _ => rfl
  | 15, _ => rfl
  | 16, _ => rfl
  | n + 17, h => absurd h (by omega)
theorem xa_row {cI cZ cJ : ClassId} {ao aa : Nat → Nat} {S : St} : ∀ {r : Nat}, r < 17 → (xW cI cZ cJ ao aa S)[28 + r]? = some (aa r, .inl (cI, xcap r, .inl (gA S r)))
  | 0, _ => rfl
  | 1, _ => rfl
  | 2, _ => rfl
  | 3, _ => rfl
  | 4, _ => rfl
  | 5, _ => rfl
  | 6, _ => rfl
  | 7, _ => rfl
  | 8, _ => rfl
  | 9, _ => rfl
  | 10, _ => rfl
  | 11, _ => rfl
  | 12, _ => rfl
  | 13, _ => rfl
  | 14, _ => rfl
  | 15, _ => rfl
  | 16, _ => rfl
  | n + 17, h => absurd h (by omega)
set_option maxRecDepth 100000 in
theorem xs_row {cI cZ cJ : ClassId} {ao aa : Nat → Nat} {S : St} {v : Int32} : ∀ {r : Nat}, r < 17 → (xW cI cZ cJ ao aa S).set r (ao r, .inr (0, ([.ref (aa r), .int (gI S r)]).set 1 (.int v))) = xW cI cZ cJ ao aa (sI S r v)
  | 0, _ => rfl
  | 1, _ => rfl
  | 2, _ => rfl
  | 3, _ => rfl
  | 4, _ => rfl
  | 5, _ => rfl
  | 6, _ => rfl
  | 7, _ => rfl
  | 8, _ => rfl
  | 9, _ => rfl
  | 10, _ => rfl
  | 11, _ => rfl
  | 12, _ => rfl
  | 13, _ => rfl
  | 14, _ => rfl
  | 15, _ => rfl
  | 16, _ => rfl
  | n + 17, h => absurd h (by omega)
set_option maxRecDepth 100000 in
theorem xt_row {cI cZ cJ : ClassId} {ao aa : Nat → Nat} {S : St} {i : Nat} {v : Int32} : ∀ {r : Nat}, r < 17 → (xW cI cZ cJ ao aa S).set (28 + r) (aa r, .inl (cI, xcap r, .inl (upd (gA S r) i v))) = xW cI cZ cJ ao aa (sA S r i v)
  | 0, _ => rfl
  | 1, _ => rfl
  | 2, _ => rfl
  | 3, _ => rfl
  | 4, _ => rfl
  | 5, _ => rfl
  | 6, _ => rfl
  | 7, _ => rfl
  | 8, _ => rfl
  | 9, _ => rfl
  | 10, _ => rfl
  | 11, _ => rfl
  | 12, _ => rfl
  | 13, _ => rfl
  | 14, _ => rfl
  | 15, _ => rfl
  | 16, _ => rfl
  | n + 17, h => absurd h (by omega)
theorem xo_17 {cI cZ cJ : ClassId} {ao aa : Nat → Nat} {S : St} : (xW cI cZ cJ ao aa S)[17]? = some (ao 17, .inr (1, [.ref (ao 9), .int (gI S 17), .int (gI S 18), .long (gL S 0)])) := rfl
set_option maxRecDepth 100000 in
theorem xs_17_kind {cI cZ cJ : ClassId} {ao aa : Nat → Nat} {S : St} {v : Int32} : (xW cI cZ cJ ao aa S).set 17 (ao 17, .inr (1, [.ref (ao 9), .int (gI S 17), .int (gI S 18), .long (gL S 0)].set 1 (.int v))) = xW cI cZ cJ ao aa (sI S 17 v) := rfl
set_option maxRecDepth 100000 in
theorem xs_17_place {cI cZ cJ : ClassId} {ao aa : Nat → Nat} {S : St} {v : Int32} : (xW cI cZ cJ ao aa S).set 17 (ao 17, .inr (1, [.ref (ao 9), .int (gI S 17), .int (gI S 18), .long (gL S 0)].set 2 (.int v))) = xW cI cZ cJ ao aa (sI S 18 v) := rfl
set_option maxRecDepth 100000 in
theorem xs_17_things {cI cZ cJ : ClassId} {ao aa : Nat → Nat} {S : St} {v : Int64} : (xW cI cZ cJ ao aa S).set 17 (ao 17, .inr (1, [.ref (ao 9), .int (gI S 17), .int (gI S 18), .long (gL S 0)].set 3 (.long v))) = xW cI cZ cJ ao aa (sL S 0 v) := rfl
theorem xo_18 {cI cZ cJ : ClassId} {ao aa : Nat → Nat} {S : St} : (xW cI cZ cJ ao aa S)[18]? = some (ao 18, .inr (1, [.ref (ao 10), .int (gI S 19), .int (gI S 20), .long (gL S 1)])) := rfl
set_option maxRecDepth 100000 in
theorem xs_18_kind {cI cZ cJ : ClassId} {ao aa : Nat → Nat} {S : St} {v : Int32} : (xW cI cZ cJ ao aa S).set 18 (ao 18, .inr (1, [.ref (ao 10), .int (gI S 19), .int (gI S 20), .long (gL S 1)].set 1 (.int v))) = xW cI cZ cJ ao aa (sI S 19 v) := rfl
set_option maxRecDepth 100000 in
theorem xs_18_place {cI cZ cJ : ClassId} {ao aa : Nat → Nat} {S : St} {v : Int32} : (xW cI cZ cJ ao aa S).set 18 (ao 18, .inr (1, [.ref (ao 10), .int (gI S 19), .int (gI S 20), .long (gL S 1)].set 2 (.int v))) = xW cI cZ cJ ao aa (sI S 20 v) := rfl
set_option maxRecDepth 100000 in
theorem xs_18_things {cI cZ cJ : ClassId} {ao aa : Nat → Nat} {S : St} {v : Int64} : (xW cI cZ cJ ao aa S).set 18 (ao 18, .inr (1, [.ref (ao 10), .int (gI S 19), .int (gI S 20), .long (gL S 1)].set 3 (.long v))) = xW cI cZ cJ ao aa (sL S 1 v) := rfl
theorem xo_19 {cI cZ cJ : ClassId} {ao aa : Nat → Nat} {S : St} : (xW cI cZ cJ ao aa S)[19]? = some (ao 19, .inr (2, [.ref (ao 21), .long (gL S 2), .int (gI S 21)])) := rfl
set_option maxRecDepth 100000 in
theorem xs_19_its {cI cZ cJ : ClassId} {ao aa : Nat → Nat} {S : St} {v : Int64} : (xW cI cZ cJ ao aa S).set 19 (ao 19, .inr (2, [.ref (ao 21), .long (gL S 2), .int (gI S 21)].set 1 (.long v))) = xW cI cZ cJ ao aa (sL S 2 v) := rfl
set_option maxRecDepth 100000 in
theorem xs_19_end {cI cZ cJ : ClassId} {ao aa : Nat → Nat} {S : St} {v : Int32} : (xW cI cZ cJ ao aa S).set 19 (ao 19, .inr (2, [.ref (ao 21), .long (gL S 2), .int (gI S 21)].set 2 (.int v))) = xW cI cZ cJ ao aa (sI S 21 v) := rfl
theorem xo_20 {cI cZ cJ : ClassId} {ao aa : Nat → Nat} {S : St} : (xW cI cZ cJ ao aa S)[20]? = some (ao 20, .inr (2, [.ref (ao 21), .long (gL S 3), .int (gI S 22)])) := rfl
set_option maxRecDepth 100000 in
theorem xs_20_its {cI cZ cJ : ClassId} {ao aa : Nat → Nat} {S : St} {v : Int64} : (xW cI cZ cJ ao aa S).set 20 (ao 20, .inr (2, [.ref (ao 21), .long (gL S 3), .int (gI S 22)].set 1 (.long v))) = xW cI cZ cJ ao aa (sL S 3 v) := rfl
set_option maxRecDepth 100000 in
theorem xs_20_end {cI cZ cJ : ClassId} {ao aa : Nat → Nat} {S : St} {v : Int32} : (xW cI cZ cJ ao aa S).set 20 (ao 20, .inr (2, [.ref (ao 21), .long (gL S 3), .int (gI S 22)].set 2 (.int v))) = xW cI cZ cJ ao aa (sI S 22 v) := rfl
theorem xo_21 {cI cZ cJ : ClassId} {ao aa : Nat → Nat} {S : St} : (xW cI cZ cJ ao aa S)[21]? = some (ao 21, .inr (3, [.ref (aa 17), .ref (aa 18), .ref (aa 19), .int (gI S 23), .long (gL S 4), .long (gL S 5), .long (gL S 6), .long (gL S 7)])) := rfl
set_option maxRecDepth 100000 in
theorem xs_21_count {cI cZ cJ : ClassId} {ao aa : Nat → Nat} {S : St} {v : Int32} : (xW cI cZ cJ ao aa S).set 21 (ao 21, .inr (3, [.ref (aa 17), .ref (aa 18), .ref (aa 19), .int (gI S 23), .long (gL S 4), .long (gL S 5), .long (gL S 6), .long (gL S 7)].set 3 (.int v))) = xW cI cZ cJ ao aa (sI S 23 v) := rfl
set_option maxRecDepth 100000 in
theorem xs_21_inScope {cI cZ cJ : ClassId} {ao aa : Nat → Nat} {S : St} {v : Int64} : (xW cI cZ cJ ao aa S).set 21 (ao 21, .inr (3, [.ref (aa 17), .ref (aa 18), .ref (aa 19), .int (gI S 23), .long (gL S 4), .long (gL S 5), .long (gL S 6), .long (gL S 7)].set 4 (.long v))) = xW cI cZ cJ ao aa (sL S 4 v) := rfl
set_option maxRecDepth 100000 in
theorem xs_21_held {cI cZ cJ : ClassId} {ao aa : Nat → Nat} {S : St} {v : Int64} : (xW cI cZ cJ ao aa S).set 21 (ao 21, .inr (3, [.ref (aa 17), .ref (aa 18), .ref (aa 19), .int (gI S 23), .long (gL S 4), .long (gL S 5), .long (gL S 6), .long (gL S 7)].set 5 (.long v))) = xW cI cZ cJ ao aa (sL S 5 v) := rfl
set_option maxRecDepth 100000 in
theorem xs_21_worn {cI cZ cJ : ClassId} {ao aa : Nat → Nat} {S : St} {v : Int64} : (xW cI cZ cJ ao aa S).set 21 (ao 21, .inr (3, [.ref (aa 17), .ref (aa 18), .ref (aa 19), .int (gI S 23), .long (gL S 4), .long (gL S 5), .long (gL S 6), .long (gL S 7)].set 6 (.long v))) = xW cI cZ cJ ao aa (sL S 6 v) := rfl
set_option maxRecDepth 100000 in
theorem xs_21_creatures {cI cZ cJ : ClassId} {ao aa : Nat → Nat} {S : St} {v : Int64} : (xW cI cZ cJ ao aa S).set 21 (ao 21, .inr (3, [.ref (aa 17), .ref (aa 18), .ref (aa 19), .int (gI S 23), .long (gL S 4), .long (gL S 5), .long (gL S 6), .long (gL S 7)].set 7 (.long v))) = xW cI cZ cJ ao aa (sL S 7 v) := rfl
theorem xo_22 {cI cZ cJ : ClassId} {ao aa : Nat → Nat} {S : St} : (xW cI cZ cJ ao aa S)[22]? = some (ao 22, .inr (4, [.ref (ao 0), .ref (ao 1), .int (gI S 24)])) := rfl
set_option maxRecDepth 100000 in
theorem xs_22_count {cI cZ cJ : ClassId} {ao aa : Nat → Nat} {S : St} {v : Int32} : (xW cI cZ cJ ao aa S).set 22 (ao 22, .inr (4, [.ref (ao 0), .ref (ao 1), .int (gI S 24)].set 2 (.int v))) = xW cI cZ cJ ao aa (sI S 24 v) := rfl
theorem xo_23 {cI cZ cJ : ClassId} {ao aa : Nat → Nat} {S : St} : (xW cI cZ cJ ao aa S)[23]? = some (ao 23, .inr (5, [.ref (aa 20), .ref (aa 21), .ref (aa 22), .ref (aa 23), .ref (aa 24), .ref (aa 25), .int (gI S 25)])) := rfl
set_option maxRecDepth 100000 in
theorem xs_23_count {cI cZ cJ : ClassId} {ao aa : Nat → Nat} {S : St} {v : Int32} : (xW cI cZ cJ ao aa S).set 23 (ao 23, .inr (5, [.ref (aa 20), .ref (aa 21), .ref (aa 22), .ref (aa 23), .ref (aa 24), .ref (aa 25), .int (gI S 25)].set 6 (.int v))) = xW cI cZ cJ ao aa (sI S 25 v) := rfl
theorem xo_24 {cI cZ cJ : ClassId} {ao aa : Nat → Nat} {S : St} : (xW cI cZ cJ ao aa S)[24]? = some (ao 24, .inr (6, [.ref (ao 2), .ref (ao 3), .ref (ao 4)])) := rfl
theorem xo_25 {cI cZ cJ : ClassId} {ao aa : Nat → Nat} {S : St} : (xW cI cZ cJ ao aa S)[25]? = some (ao 25, .inr (7, [.ref (ao 21), .ref (ao 23), .ref (ao 24), .ref (ao 6), .ref (ao 20), .ref (ao 17), .ref (ao 18), .ref (ao 11), .ref (ao 12), .int (gI S 26), .int (gI S 27), .int (gI S 28), .int (gI S 29)])) := rfl
set_option maxRecDepth 100000 in
theorem xs_25_line {cI cZ cJ : ClassId} {ao aa : Nat → Nat} {S : St} {v : Int32} : (xW cI cZ cJ ao aa S).set 25 (ao 25, .inr (7, [.ref (ao 21), .ref (ao 23), .ref (ao 24), .ref (ao 6), .ref (ao 20), .ref (ao 17), .ref (ao 18), .ref (ao 11), .ref (ao 12), .int (gI S 26), .int (gI S 27), .int (gI S 28), .int (gI S 29)].set 9 (.int v))) = xW cI cZ cJ ao aa (sI S 26 v) := rfl
set_option maxRecDepth 100000 in
theorem xs_25_cursor {cI cZ cJ : ClassId} {ao aa : Nat → Nat} {S : St} {v : Int32} : (xW cI cZ cJ ao aa S).set 25 (ao 25, .inr (7, [.ref (ao 21), .ref (ao 23), .ref (ao 24), .ref (ao 6), .ref (ao 20), .ref (ao 17), .ref (ao 18), .ref (ao 11), .ref (ao 12), .int (gI S 26), .int (gI S 27), .int (gI S 28), .int (gI S 29)].set 10 (.int v))) = xW cI cZ cJ ao aa (sI S 27 v) := rfl
set_option maxRecDepth 100000 in
theorem xs_25_error {cI cZ cJ : ClassId} {ao aa : Nat → Nat} {S : St} {v : Int32} : (xW cI cZ cJ ao aa S).set 25 (ao 25, .inr (7, [.ref (ao 21), .ref (ao 23), .ref (ao 24), .ref (ao 6), .ref (ao 20), .ref (ao 17), .ref (ao 18), .ref (ao 11), .ref (ao 12), .int (gI S 26), .int (gI S 27), .int (gI S 28), .int (gI S 29)].set 11 (.int v))) = xW cI cZ cJ ao aa (sI S 28 v) := rfl
set_option maxRecDepth 100000 in
theorem xs_25_place {cI cZ cJ : ClassId} {ao aa : Nat → Nat} {S : St} {v : Int32} : (xW cI cZ cJ ao aa S).set 25 (ao 25, .inr (7, [.ref (ao 21), .ref (ao 23), .ref (ao 24), .ref (ao 6), .ref (ao 20), .ref (ao 17), .ref (ao 18), .ref (ao 11), .ref (ao 12), .int (gI S 26), .int (gI S 27), .int (gI S 28), .int (gI S 29)].set 12 (.int v))) = xW cI cZ cJ ao aa (sI S 29 v) := rfl
theorem xo_26 {cI cZ cJ : ClassId} {ao aa : Nat → Nat} {S : St} : (xW cI cZ cJ ao aa S)[26]? = some (ao 26, .inr (8, [.ref (ao 13), .ref (ao 14), .ref (ao 15), .ref (ao 16), .int (gI S 30), .int (gI S 31), .int (gI S 32), .int (gI S 33), .int (gI S 34)])) := rfl
set_option maxRecDepth 100000 in
theorem xs_26_action {cI cZ cJ : ClassId} {ao aa : Nat → Nat} {S : St} {v : Int32} : (xW cI cZ cJ ao aa S).set 26 (ao 26, .inr (8, [.ref (ao 13), .ref (ao 14), .ref (ao 15), .ref (ao 16), .int (gI S 30), .int (gI S 31), .int (gI S 32), .int (gI S 33), .int (gI S 34)].set 4 (.int v))) = xW cI cZ cJ ao aa (sI S 30 v) := rfl
set_option maxRecDepth 100000 in
theorem xs_26_error {cI cZ cJ : ClassId} {ao aa : Nat → Nat} {S : St} {v : Int32} : (xW cI cZ cJ ao aa S).set 26 (ao 26, .inr (8, [.ref (ao 13), .ref (ao 14), .ref (ao 15), .ref (ao 16), .int (gI S 30), .int (gI S 31), .int (gI S 32), .int (gI S 33), .int (gI S 34)].set 5 (.int v))) = xW cI cZ cJ ao aa (sI S 31 v) := rfl
set_option maxRecDepth 100000 in
theorem xs_26_place {cI cZ cJ : ClassId} {ao aa : Nat → Nat} {S : St} {v : Int32} : (xW cI cZ cJ ao aa S).set 26 (ao 26, .inr (8, [.ref (ao 13), .ref (ao 14), .ref (ao 15), .ref (ao 16), .int (gI S 30), .int (gI S 31), .int (gI S 32), .int (gI S 33), .int (gI S 34)].set 6 (.int v))) = xW cI cZ cJ ao aa (sI S 32 v) := rfl
set_option maxRecDepth 100000 in
theorem xs_26_line {cI cZ cJ : ClassId} {ao aa : Nat → Nat} {S : St} {v : Int32} : (xW cI cZ cJ ao aa S).set 26 (ao 26, .inr (8, [.ref (ao 13), .ref (ao 14), .ref (ao 15), .ref (ao 16), .int (gI S 30), .int (gI S 31), .int (gI S 32), .int (gI S 33), .int (gI S 34)].set 7 (.int v))) = xW cI cZ cJ ao aa (sI S 33 v) := rfl
set_option maxRecDepth 100000 in
theorem xs_26_phraseEnd {cI cZ cJ : ClassId} {ao aa : Nat → Nat} {S : St} {v : Int32} : (xW cI cZ cJ ao aa S).set 26 (ao 26, .inr (8, [.ref (ao 13), .ref (ao 14), .ref (ao 15), .ref (ao 16), .int (gI S 30), .int (gI S 31), .int (gI S 32), .int (gI S 33), .int (gI S 34)].set 8 (.int v))) = xW cI cZ cJ ao aa (sI S 34 v) := rfl
theorem xo_27 {cI cZ cJ : ClassId} {ao aa : Nat → Nat} {S : St} : (xW cI cZ cJ ao aa S)[27]? = some (ao 27, .inr (9, [.ref (ao 21), .ref (ao 22), .ref (ao 23), .ref (ao 24), .ref (ao 5), .ref (ao 6), .ref (ao 7), .ref (ao 8), .ref (ao 19), .ref (ao 25), .ref (ao 26), .int (gI S 35), .int (gI S 36)])) := rfl
set_option maxRecDepth 100000 in
theorem xs_27_recipient {cI cZ cJ : ClassId} {ao aa : Nat → Nat} {S : St} {v : Int32} : (xW cI cZ cJ ao aa S).set 27 (ao 27, .inr (9, [.ref (ao 21), .ref (ao 22), .ref (ao 23), .ref (ao 24), .ref (ao 5), .ref (ao 6), .ref (ao 7), .ref (ao 8), .ref (ao 19), .ref (ao 25), .ref (ao 26), .int (gI S 35), .int (gI S 36)].set 11 (.int v))) = xW cI cZ cJ ao aa (sI S 35 v) := rfl
set_option maxRecDepth 100000 in
theorem xs_27_doneTo {cI cZ cJ : ClassId} {ao aa : Nat → Nat} {S : St} {v : Int32} : (xW cI cZ cJ ao aa S).set 27 (ao 27, .inr (9, [.ref (ao 21), .ref (ao 22), .ref (ao 23), .ref (ao 24), .ref (ao 5), .ref (ao 6), .ref (ao 7), .ref (ao 8), .ref (ao 19), .ref (ao 25), .ref (ao 26), .int (gI S 35), .int (gI S 36)].set 12 (.int v))) = xW cI cZ cJ ao aa (sI S 36 v) := rfl
theorem xa_17 {cI cZ cJ : ClassId} {ao aa : Nat → Nat} {S : St} : (xW cI cZ cJ ao aa S)[45]? = some (aa 17, .inl (cI, 40, .inl (gA S 17))) := rfl
set_option maxRecDepth 100000 in
theorem xt_17 {cI cZ cJ : ClassId} {ao aa : Nat → Nat} {S : St} {i : Nat} {v : Int32} : (xW cI cZ cJ ao aa S).set 45 (aa 17, .inl (cI, 40, .inl (upd (gA S 17) i v))) = xW cI cZ cJ ao aa (sA S 17 i v) := rfl
theorem xa_18 {cI cZ cJ : ClassId} {ao aa : Nat → Nat} {S : St} : (xW cI cZ cJ ao aa S)[46]? = some (aa 18, .inl (cI, 40, .inl (gA S 18))) := rfl
set_option maxRecDepth 100000 in
theorem xt_18 {cI cZ cJ : ClassId} {ao aa : Nat → Nat} {S : St} {i : Nat} {v : Int32} : (xW cI cZ cJ ao aa S).set 46 (aa 18, .inl (cI, 40, .inl (upd (gA S 18) i v))) = xW cI cZ cJ ao aa (sA S 18 i v) := rfl
theorem xa_19 {cI cZ cJ : ClassId} {ao aa : Nat → Nat} {S : St} : (xW cI cZ cJ ao aa S)[47]? = some (aa 19, .inl (cI, 160, .inl (gA S 19))) := rfl
set_option maxRecDepth 100000 in
theorem xt_19 {cI cZ cJ : ClassId} {ao aa : Nat → Nat} {S : St} {i : Nat} {v : Int32} : (xW cI cZ cJ ao aa S).set 47 (aa 19, .inl (cI, 160, .inl (upd (gA S 19) i v))) = xW cI cZ cJ ao aa (sA S 19 i v) := rfl
theorem xa_20 {cI cZ cJ : ClassId} {ao aa : Nat → Nat} {S : St} : (xW cI cZ cJ ao aa S)[48]? = some (aa 20, .inl (cI, 60, .inl (gA S 20))) := rfl
set_option maxRecDepth 100000 in
theorem xt_20 {cI cZ cJ : ClassId} {ao aa : Nat → Nat} {S : St} {i : Nat} {v : Int32} : (xW cI cZ cJ ao aa S).set 48 (aa 20, .inl (cI, 60, .inl (upd (gA S 20) i v))) = xW cI cZ cJ ao aa (sA S 20 i v) := rfl
theorem xa_21 {cI cZ cJ : ClassId} {ao aa : Nat → Nat} {S : St} : (xW cI cZ cJ ao aa S)[49]? = some (aa 21, .inl (cI, 60, .inl (gA S 21))) := rfl
set_option maxRecDepth 100000 in
theorem xt_21 {cI cZ cJ : ClassId} {ao aa : Nat → Nat} {S : St} {i : Nat} {v : Int32} : (xW cI cZ cJ ao aa S).set 49 (aa 21, .inl (cI, 60, .inl (upd (gA S 21) i v))) = xW cI cZ cJ ao aa (sA S 21 i v) := rfl
theorem xa_22 {cI cZ cJ : ClassId} {ao aa : Nat → Nat} {S : St} : (xW cI cZ cJ ao aa S)[50]? = some (aa 22, .inl (cZ, 60, .inl (gA S 22))) := rfl
set_option maxRecDepth 100000 in
theorem xt_22 {cI cZ cJ : ClassId} {ao aa : Nat → Nat} {S : St} {i : Nat} {v : Int32} : (xW cI cZ cJ ao aa S).set 50 (aa 22, .inl (cZ, 60, .inl (upd (gA S 22) i v))) = xW cI cZ cJ ao aa (sA S 22 i v) := rfl
theorem xa_23 {cI cZ cJ : ClassId} {ao aa : Nat → Nat} {S : St} : (xW cI cZ cJ ao aa S)[51]? = some (aa 23, .inl (cI, 60, .inl (gA S 23))) := rfl
set_option maxRecDepth 100000 in
theorem xt_23 {cI cZ cJ : ClassId} {ao aa : Nat → Nat} {S : St} {i : Nat} {v : Int32} : (xW cI cZ cJ ao aa S).set 51 (aa 23, .inl (cI, 60, .inl (upd (gA S 23) i v))) = xW cI cZ cJ ao aa (sA S 23 i v) := rfl
theorem xa_24 {cI cZ cJ : ClassId} {ao aa : Nat → Nat} {S : St} : (xW cI cZ cJ ao aa S)[52]? = some (aa 24, .inl (cI, 480, .inl (gA S 24))) := rfl
set_option maxRecDepth 100000 in
theorem xt_24 {cI cZ cJ : ClassId} {ao aa : Nat → Nat} {S : St} {i : Nat} {v : Int32} : (xW cI cZ cJ ao aa S).set 52 (aa 24, .inl (cI, 480, .inl (upd (gA S 24) i v))) = xW cI cZ cJ ao aa (sA S 24 i v) := rfl
theorem xa_25 {cI cZ cJ : ClassId} {ao aa : Nat → Nat} {S : St} : (xW cI cZ cJ ao aa S)[53]? = some (aa 25, .inl (cI, 480, .inl (gA S 25))) := rfl
set_option maxRecDepth 100000 in
theorem xt_25 {cI cZ cJ : ClassId} {ao aa : Nat → Nat} {S : St} {i : Nat} {v : Int32} : (xW cI cZ cJ ao aa S).set 53 (aa 25, .inl (cI, 480, .inl (upd (gA S 25) i v))) = xW cI cZ cJ ao aa (sA S 25 i v) := rfl
end
section
def mW (cI cZ cJ : ClassId) (ao aa : Nat → Nat) (S : St) : va_W := [(ao 0, .inr (10, [.int (gI S 0), .int (gI S 1), .ref (aa 0), .ref (aa 1), .int (gI S 2), .ref (aa 2), .ref (aa 3), .ref (aa 4), .ref (aa 5), .ref (aa 6), .ref (aa 7), .int (gI S 3), .ref (aa 8), .ref (aa 9), .ref (aa 10), .int (gI S 4), .ref (aa 11), .ref (aa 12), .ref (aa 13), .int (gI S 5), .ref (aa 14), .ref (aa 15), .int (gI S 6), .long (gL S 0), .int (gI S 7), .int (gI S 8), .long (gL S 1), .int (gI S 9), .int (gI S 10), .int (gI S 11), .ref (aa 16), .int (gI S 12), .ref (aa 17), .int (gI S 13), .ref (aa 18), .ref (aa 19), .ref (aa 20), .ref (aa 21), .ref (aa 22), .ref (aa 23), .int (gI S 14), .ref (aa 24), .int (gI S 15), .int (gI S 16), .ref (aa 25), .ref (aa 26), .ref (aa 27), .int (gI S 17), .int (gI S 18), .int (gI S 19), .int (gI S 20), .int (gI S 21), .int (gI S 22), .int (gI S 23), .ref (aa 28), .int (gI S 24)])), (aa 0, .inl (cI, 60, .inl (gA S 0))), (aa 1, .inl (cI, 60, .inl (gA S 1))), (aa 2, .inl (cI, 60, .inl (gA S 2))), (aa 3, .inl (cI, 60, .inl (gA S 3))), (aa 4, .inl (cZ, 60, .inl (gA S 4))), (aa 5, .inl (cI, 60, .inl (gA S 5))), (aa 6, .inl (cI, 480, .inl (gA S 6))), (aa 7, .inl (cI, 480, .inl (gA S 7))), (aa 8, .inl (cI, 40, .inl (gA S 8))), (aa 9, .inl (cI, 40, .inl (gA S 9))), (aa 10, .inl (cI, 160, .inl (gA S 10))), (aa 11, .inl (cI, 40, .inl (gA S 11))), (aa 12, .inl (cI, 40, .inl (gA S 12))), (aa 13, .inl (cI, 40, .inl (gA S 13))), (aa 14, .inl (cI, 60, .inl (gA S 14))), (aa 15, .inl (cI, 60, .inl (gA S 15))), (aa 16, .inl (cI, 8, .inl (gA S 16))), (aa 17, .inl (cI, 8, .inl (gA S 17))), (aa 18, .inl (cI, 2, .inl (gA S 18))), (aa 19, .inl (cI, 2, .inl (gA S 19))), (aa 20, .inl (cJ, 2, .inr (.inl (gB S 20)))), (aa 21, .inl (cI, 2, .inl (gA S 21))), (aa 22, .inl (cI, 2, .inl (gA S 22))), (aa 23, .inl (cI, 2, .inl (gA S 23))), (aa 24, .inl (cI, 60, .inl (gA S 24))), (aa 25, .inl (cI, 60, .inl (gA S 25))), (aa 26, .inl (cI, 60, .inl (gA S 26))), (aa 27, .inl (cI, 60, .inl (gA S 27))), (aa 28, .inl (cI, 60, .inl (gA S 28)))]
def mA (ao aa : Nat → Nat) : Nat → Prop := fun q => (∃ k, k < 1 ∧ q = ao k) ∨ ∃ k, k < 29 ∧ q = aa k
theorem mo_0 {cI cZ cJ : ClassId} {ao aa : Nat → Nat} {S : St} : (mW cI cZ cJ ao aa S)[0]? = some (ao 0, .inr (10, [.int (gI S 0), .int (gI S 1), .ref (aa 0), .ref (aa 1), .int (gI S 2), .ref (aa 2), .ref (aa 3), .ref (aa 4), .ref (aa 5), .ref (aa 6), .ref (aa 7), .int (gI S 3), .ref (aa 8), .ref (aa 9), .ref (aa 10), .int (gI S 4), .ref (aa 11), .ref (aa 12), .ref (aa 13), .int (gI S 5), .ref (aa 14), .ref (aa 15), .int (gI S 6), .long (gL S 0), .int (gI S 7), .int (gI S 8), .long (gL S 1), .int (gI S 9), .int (gI S 10), .int (gI S 11), .ref (aa 16), .int (gI S 12), .ref (aa 17), .int (gI S 13), .ref (aa 18), .ref (aa 19), .ref (aa 20), .ref (aa 21), .ref (aa 22), .ref (aa 23), .int (gI S 14), .ref (aa 24), .int (gI S 15), .int (gI S 16), .ref (aa 25), .ref (aa 26), .ref (aa 27), .int (gI S 17), .int (gI S 18), .int (gI S 19), .int (gI S 20), .int (gI S 21), .int (gI S 22), .int (gI S 23), .ref (aa 28), .int (gI S 24)])) := rfl
set_option maxRecDepth 100000 in
theorem ms_0_verbs {cI cZ cJ : ClassId} {ao aa : Nat → Nat} {S : St} {v : Int32} : (mW cI cZ cJ ao aa S).set 0 (ao 0, .inr (10, [.int (gI S 0), .int (gI S 1), .ref (aa 0), .ref (aa 1), .int (gI S 2), .ref (aa 2), .ref (aa 3), .ref (aa 4), .ref (aa 5), .ref (aa 6), .ref (aa 7), .int (gI S 3), .ref (aa 8), .ref (aa 9), .ref (aa 10), .int (gI S 4), .ref (aa 11), .ref (aa 12), .ref (aa 13), .int (gI S 5), .ref (aa 14), .ref (aa 15), .int (gI S 6), .long (gL S 0), .int (gI S 7), .int (gI S 8), .long (gL S 1), .int (gI S 9), .int (gI S 10), .int (gI S 11), .ref (aa 16), .int (gI S 12), .ref (aa 17), .int (gI S 13), .ref (aa 18), .ref (aa 19), .ref (aa 20), .ref (aa 21), .ref (aa 22), .ref (aa 23), .int (gI S 14), .ref (aa 24), .int (gI S 15), .int (gI S 16), .ref (aa 25), .ref (aa 26), .ref (aa 27), .int (gI S 17), .int (gI S 18), .int (gI S 19), .int (gI S 20), .int (gI S 21), .int (gI S 22), .int (gI S 23), .ref (aa 28), .int (gI S 24)].set 0 (.int v))) = mW cI cZ cJ ao aa (sI S 0 v) := rfl
set_option maxRecDepth 100000 in
theorem ms_0_verbWords {cI cZ cJ : ClassId} {ao aa : Nat → Nat} {S : St} {v : Int32} : (mW cI cZ cJ ao aa S).set 0 (ao 0, .inr (10, [.int (gI S 0), .int (gI S 1), .ref (aa 0), .ref (aa 1), .int (gI S 2), .ref (aa 2), .ref (aa 3), .ref (aa 4), .ref (aa 5), .ref (aa 6), .ref (aa 7), .int (gI S 3), .ref (aa 8), .ref (aa 9), .ref (aa 10), .int (gI S 4), .ref (aa 11), .ref (aa 12), .ref (aa 13), .int (gI S 5), .ref (aa 14), .ref (aa 15), .int (gI S 6), .long (gL S 0), .int (gI S 7), .int (gI S 8), .long (gL S 1), .int (gI S 9), .int (gI S 10), .int (gI S 11), .ref (aa 16), .int (gI S 12), .ref (aa 17), .int (gI S 13), .ref (aa 18), .ref (aa 19), .ref (aa 20), .ref (aa 21), .ref (aa 22), .ref (aa 23), .int (gI S 14), .ref (aa 24), .int (gI S 15), .int (gI S 16), .ref (aa 25), .ref (aa 26), .ref (aa 27), .int (gI S 17), .int (gI S 18), .int (gI S 19), .int (gI S 20), .int (gI S 21), .int (gI S 22), .int (gI S 23), .ref (aa 28), .int (gI S 24)].set 1 (.int v))) = mW cI cZ cJ ao aa (sI S 1 v) := rfl
set_option maxRecDepth 100000 in
theorem ms_0_lines {cI cZ cJ : ClassId} {ao aa : Nat → Nat} {S : St} {v : Int32} : (mW cI cZ cJ ao aa S).set 0 (ao 0, .inr (10, [.int (gI S 0), .int (gI S 1), .ref (aa 0), .ref (aa 1), .int (gI S 2), .ref (aa 2), .ref (aa 3), .ref (aa 4), .ref (aa 5), .ref (aa 6), .ref (aa 7), .int (gI S 3), .ref (aa 8), .ref (aa 9), .ref (aa 10), .int (gI S 4), .ref (aa 11), .ref (aa 12), .ref (aa 13), .int (gI S 5), .ref (aa 14), .ref (aa 15), .int (gI S 6), .long (gL S 0), .int (gI S 7), .int (gI S 8), .long (gL S 1), .int (gI S 9), .int (gI S 10), .int (gI S 11), .ref (aa 16), .int (gI S 12), .ref (aa 17), .int (gI S 13), .ref (aa 18), .ref (aa 19), .ref (aa 20), .ref (aa 21), .ref (aa 22), .ref (aa 23), .int (gI S 14), .ref (aa 24), .int (gI S 15), .int (gI S 16), .ref (aa 25), .ref (aa 26), .ref (aa 27), .int (gI S 17), .int (gI S 18), .int (gI S 19), .int (gI S 20), .int (gI S 21), .int (gI S 22), .int (gI S 23), .ref (aa 28), .int (gI S 24)].set 4 (.int v))) = mW cI cZ cJ ao aa (sI S 2 v) := rfl
set_option maxRecDepth 100000 in
theorem ms_0_things {cI cZ cJ : ClassId} {ao aa : Nat → Nat} {S : St} {v : Int32} : (mW cI cZ cJ ao aa S).set 0 (ao 0, .inr (10, [.int (gI S 0), .int (gI S 1), .ref (aa 0), .ref (aa 1), .int (gI S 2), .ref (aa 2), .ref (aa 3), .ref (aa 4), .ref (aa 5), .ref (aa 6), .ref (aa 7), .int (gI S 3), .ref (aa 8), .ref (aa 9), .ref (aa 10), .int (gI S 4), .ref (aa 11), .ref (aa 12), .ref (aa 13), .int (gI S 5), .ref (aa 14), .ref (aa 15), .int (gI S 6), .long (gL S 0), .int (gI S 7), .int (gI S 8), .long (gL S 1), .int (gI S 9), .int (gI S 10), .int (gI S 11), .ref (aa 16), .int (gI S 12), .ref (aa 17), .int (gI S 13), .ref (aa 18), .ref (aa 19), .ref (aa 20), .ref (aa 21), .ref (aa 22), .ref (aa 23), .int (gI S 14), .ref (aa 24), .int (gI S 15), .int (gI S 16), .ref (aa 25), .ref (aa 26), .ref (aa 27), .int (gI S 17), .int (gI S 18), .int (gI S 19), .int (gI S 20), .int (gI S 21), .int (gI S 22), .int (gI S 23), .ref (aa 28), .int (gI S 24)].set 11 (.int v))) = mW cI cZ cJ ao aa (sI S 3 v) := rfl
set_option maxRecDepth 100000 in
theorem ms_0_pairs {cI cZ cJ : ClassId} {ao aa : Nat → Nat} {S : St} {v : Int32} : (mW cI cZ cJ ao aa S).set 0 (ao 0, .inr (10, [.int (gI S 0), .int (gI S 1), .ref (aa 0), .ref (aa 1), .int (gI S 2), .ref (aa 2), .ref (aa 3), .ref (aa 4), .ref (aa 5), .ref (aa 6), .ref (aa 7), .int (gI S 3), .ref (aa 8), .ref (aa 9), .ref (aa 10), .int (gI S 4), .ref (aa 11), .ref (aa 12), .ref (aa 13), .int (gI S 5), .ref (aa 14), .ref (aa 15), .int (gI S 6), .long (gL S 0), .int (gI S 7), .int (gI S 8), .long (gL S 1), .int (gI S 9), .int (gI S 10), .int (gI S 11), .ref (aa 16), .int (gI S 12), .ref (aa 17), .int (gI S 13), .ref (aa 18), .ref (aa 19), .ref (aa 20), .ref (aa 21), .ref (aa 22), .ref (aa 23), .int (gI S 14), .ref (aa 24), .int (gI S 15), .int (gI S 16), .ref (aa 25), .ref (aa 26), .ref (aa 27), .int (gI S 17), .int (gI S 18), .int (gI S 19), .int (gI S 20), .int (gI S 21), .int (gI S 22), .int (gI S 23), .ref (aa 28), .int (gI S 24)].set 15 (.int v))) = mW cI cZ cJ ao aa (sI S 4 v) := rfl
set_option maxRecDepth 100000 in
theorem ms_0_inputMany {cI cZ cJ : ClassId} {ao aa : Nat → Nat} {S : St} {v : Int32} : (mW cI cZ cJ ao aa S).set 0 (ao 0, .inr (10, [.int (gI S 0), .int (gI S 1), .ref (aa 0), .ref (aa 1), .int (gI S 2), .ref (aa 2), .ref (aa 3), .ref (aa 4), .ref (aa 5), .ref (aa 6), .ref (aa 7), .int (gI S 3), .ref (aa 8), .ref (aa 9), .ref (aa 10), .int (gI S 4), .ref (aa 11), .ref (aa 12), .ref (aa 13), .int (gI S 5), .ref (aa 14), .ref (aa 15), .int (gI S 6), .long (gL S 0), .int (gI S 7), .int (gI S 8), .long (gL S 1), .int (gI S 9), .int (gI S 10), .int (gI S 11), .ref (aa 16), .int (gI S 12), .ref (aa 17), .int (gI S 13), .ref (aa 18), .ref (aa 19), .ref (aa 20), .ref (aa 21), .ref (aa 22), .ref (aa 23), .int (gI S 14), .ref (aa 24), .int (gI S 15), .int (gI S 16), .ref (aa 25), .ref (aa 26), .ref (aa 27), .int (gI S 17), .int (gI S 18), .int (gI S 19), .int (gI S 20), .int (gI S 21), .int (gI S 22), .int (gI S 23), .ref (aa 28), .int (gI S 24)].set 19 (.int v))) = mW cI cZ cJ ao aa (sI S 5 v) := rfl
set_option maxRecDepth 100000 in
theorem ms_0_rowMany {cI cZ cJ : ClassId} {ao aa : Nat → Nat} {S : St} {v : Int32} : (mW cI cZ cJ ao aa S).set 0 (ao 0, .inr (10, [.int (gI S 0), .int (gI S 1), .ref (aa 0), .ref (aa 1), .int (gI S 2), .ref (aa 2), .ref (aa 3), .ref (aa 4), .ref (aa 5), .ref (aa 6), .ref (aa 7), .int (gI S 3), .ref (aa 8), .ref (aa 9), .ref (aa 10), .int (gI S 4), .ref (aa 11), .ref (aa 12), .ref (aa 13), .int (gI S 5), .ref (aa 14), .ref (aa 15), .int (gI S 6), .long (gL S 0), .int (gI S 7), .int (gI S 8), .long (gL S 1), .int (gI S 9), .int (gI S 10), .int (gI S 11), .ref (aa 16), .int (gI S 12), .ref (aa 17), .int (gI S 13), .ref (aa 18), .ref (aa 19), .ref (aa 20), .ref (aa 21), .ref (aa 22), .ref (aa 23), .int (gI S 14), .ref (aa 24), .int (gI S 15), .int (gI S 16), .ref (aa 25), .ref (aa 26), .ref (aa 27), .int (gI S 17), .int (gI S 18), .int (gI S 19), .int (gI S 20), .int (gI S 21), .int (gI S 22), .int (gI S 23), .ref (aa 28), .int (gI S 24)].set 22 (.int v))) = mW cI cZ cJ ao aa (sI S 6 v) := rfl
set_option maxRecDepth 100000 in
theorem ms_0_phraseThings {cI cZ cJ : ClassId} {ao aa : Nat → Nat} {S : St} {v : Int64} : (mW cI cZ cJ ao aa S).set 0 (ao 0, .inr (10, [.int (gI S 0), .int (gI S 1), .ref (aa 0), .ref (aa 1), .int (gI S 2), .ref (aa 2), .ref (aa 3), .ref (aa 4), .ref (aa 5), .ref (aa 6), .ref (aa 7), .int (gI S 3), .ref (aa 8), .ref (aa 9), .ref (aa 10), .int (gI S 4), .ref (aa 11), .ref (aa 12), .ref (aa 13), .int (gI S 5), .ref (aa 14), .ref (aa 15), .int (gI S 6), .long (gL S 0), .int (gI S 7), .int (gI S 8), .long (gL S 1), .int (gI S 9), .int (gI S 10), .int (gI S 11), .ref (aa 16), .int (gI S 12), .ref (aa 17), .int (gI S 13), .ref (aa 18), .ref (aa 19), .ref (aa 20), .ref (aa 21), .ref (aa 22), .ref (aa 23), .int (gI S 14), .ref (aa 24), .int (gI S 15), .int (gI S 16), .ref (aa 25), .ref (aa 26), .ref (aa 27), .int (gI S 17), .int (gI S 18), .int (gI S 19), .int (gI S 20), .int (gI S 21), .int (gI S 22), .int (gI S 23), .ref (aa 28), .int (gI S 24)].set 23 (.long v))) = mW cI cZ cJ ao aa (sL S 0 v) := rfl
set_option maxRecDepth 100000 in
theorem ms_0_error {cI cZ cJ : ClassId} {ao aa : Nat → Nat} {S : St} {v : Int32} : (mW cI cZ cJ ao aa S).set 0 (ao 0, .inr (10, [.int (gI S 0), .int (gI S 1), .ref (aa 0), .ref (aa 1), .int (gI S 2), .ref (aa 2), .ref (aa 3), .ref (aa 4), .ref (aa 5), .ref (aa 6), .ref (aa 7), .int (gI S 3), .ref (aa 8), .ref (aa 9), .ref (aa 10), .int (gI S 4), .ref (aa 11), .ref (aa 12), .ref (aa 13), .int (gI S 5), .ref (aa 14), .ref (aa 15), .int (gI S 6), .long (gL S 0), .int (gI S 7), .int (gI S 8), .long (gL S 1), .int (gI S 9), .int (gI S 10), .int (gI S 11), .ref (aa 16), .int (gI S 12), .ref (aa 17), .int (gI S 13), .ref (aa 18), .ref (aa 19), .ref (aa 20), .ref (aa 21), .ref (aa 22), .ref (aa 23), .int (gI S 14), .ref (aa 24), .int (gI S 15), .int (gI S 16), .ref (aa 25), .ref (aa 26), .ref (aa 27), .int (gI S 17), .int (gI S 18), .int (gI S 19), .int (gI S 20), .int (gI S 21), .int (gI S 22), .int (gI S 23), .ref (aa 28), .int (gI S 24)].set 24 (.int v))) = mW cI cZ cJ ao aa (sI S 7 v) := rfl
set_option maxRecDepth 100000 in
theorem ms_0_place {cI cZ cJ : ClassId} {ao aa : Nat → Nat} {S : St} {v : Int32} : (mW cI cZ cJ ao aa S).set 0 (ao 0, .inr (10, [.int (gI S 0), .int (gI S 1), .ref (aa 0), .ref (aa 1), .int (gI S 2), .ref (aa 2), .ref (aa 3), .ref (aa 4), .ref (aa 5), .ref (aa 6), .ref (aa 7), .int (gI S 3), .ref (aa 8), .ref (aa 9), .ref (aa 10), .int (gI S 4), .ref (aa 11), .ref (aa 12), .ref (aa 13), .int (gI S 5), .ref (aa 14), .ref (aa 15), .int (gI S 6), .long (gL S 0), .int (gI S 7), .int (gI S 8), .long (gL S 1), .int (gI S 9), .int (gI S 10), .int (gI S 11), .ref (aa 16), .int (gI S 12), .ref (aa 17), .int (gI S 13), .ref (aa 18), .ref (aa 19), .ref (aa 20), .ref (aa 21), .ref (aa 22), .ref (aa 23), .int (gI S 14), .ref (aa 24), .int (gI S 15), .int (gI S 16), .ref (aa 25), .ref (aa 26), .ref (aa 27), .int (gI S 17), .int (gI S 18), .int (gI S 19), .int (gI S 20), .int (gI S 21), .int (gI S 22), .int (gI S 23), .ref (aa 28), .int (gI S 24)].set 25 (.int v))) = mW cI cZ cJ ao aa (sI S 8 v) := rfl
set_option maxRecDepth 100000 in
theorem ms_0_which {cI cZ cJ : ClassId} {ao aa : Nat → Nat} {S : St} {v : Int64} : (mW cI cZ cJ ao aa S).set 0 (ao 0, .inr (10, [.int (gI S 0), .int (gI S 1), .ref (aa 0), .ref (aa 1), .int (gI S 2), .ref (aa 2), .ref (aa 3), .ref (aa 4), .ref (aa 5), .ref (aa 6), .ref (aa 7), .int (gI S 3), .ref (aa 8), .ref (aa 9), .ref (aa 10), .int (gI S 4), .ref (aa 11), .ref (aa 12), .ref (aa 13), .int (gI S 5), .ref (aa 14), .ref (aa 15), .int (gI S 6), .long (gL S 0), .int (gI S 7), .int (gI S 8), .long (gL S 1), .int (gI S 9), .int (gI S 10), .int (gI S 11), .ref (aa 16), .int (gI S 12), .ref (aa 17), .int (gI S 13), .ref (aa 18), .ref (aa 19), .ref (aa 20), .ref (aa 21), .ref (aa 22), .ref (aa 23), .int (gI S 14), .ref (aa 24), .int (gI S 15), .int (gI S 16), .ref (aa 25), .ref (aa 26), .ref (aa 27), .int (gI S 17), .int (gI S 18), .int (gI S 19), .int (gI S 20), .int (gI S 21), .int (gI S 22), .int (gI S 23), .ref (aa 28), .int (gI S 24)].set 26 (.long v))) = mW cI cZ cJ ao aa (sL S 1 v) := rfl
set_option maxRecDepth 100000 in
theorem ms_0_phraseEnd {cI cZ cJ : ClassId} {ao aa : Nat → Nat} {S : St} {v : Int32} : (mW cI cZ cJ ao aa S).set 0 (ao 0, .inr (10, [.int (gI S 0), .int (gI S 1), .ref (aa 0), .ref (aa 1), .int (gI S 2), .ref (aa 2), .ref (aa 3), .ref (aa 4), .ref (aa 5), .ref (aa 6), .ref (aa 7), .int (gI S 3), .ref (aa 8), .ref (aa 9), .ref (aa 10), .int (gI S 4), .ref (aa 11), .ref (aa 12), .ref (aa 13), .int (gI S 5), .ref (aa 14), .ref (aa 15), .int (gI S 6), .long (gL S 0), .int (gI S 7), .int (gI S 8), .long (gL S 1), .int (gI S 9), .int (gI S 10), .int (gI S 11), .ref (aa 16), .int (gI S 12), .ref (aa 17), .int (gI S 13), .ref (aa 18), .ref (aa 19), .ref (aa 20), .ref (aa 21), .ref (aa 22), .ref (aa 23), .int (gI S 14), .ref (aa 24), .int (gI S 15), .int (gI S 16), .ref (aa 25), .ref (aa 26), .ref (aa 27), .int (gI S 17), .int (gI S 18), .int (gI S 19), .int (gI S 20), .int (gI S 21), .int (gI S 22), .int (gI S 23), .ref (aa 28), .int (gI S 24)].set 27 (.int v))) = mW cI cZ cJ ao aa (sI S 9 v) := rfl
set_option maxRecDepth 100000 in
theorem ms_0_lacks {cI cZ cJ : ClassId} {ao aa : Nat → Nat} {S : St} {v : Int32} : (mW cI cZ cJ ao aa S).set 0 (ao 0, .inr (10, [.int (gI S 0), .int (gI S 1), .ref (aa 0), .ref (aa 1), .int (gI S 2), .ref (aa 2), .ref (aa 3), .ref (aa 4), .ref (aa 5), .ref (aa 6), .ref (aa 7), .int (gI S 3), .ref (aa 8), .ref (aa 9), .ref (aa 10), .int (gI S 4), .ref (aa 11), .ref (aa 12), .ref (aa 13), .int (gI S 5), .ref (aa 14), .ref (aa 15), .int (gI S 6), .long (gL S 0), .int (gI S 7), .int (gI S 8), .long (gL S 1), .int (gI S 9), .int (gI S 10), .int (gI S 11), .ref (aa 16), .int (gI S 12), .ref (aa 17), .int (gI S 13), .ref (aa 18), .ref (aa 19), .ref (aa 20), .ref (aa 21), .ref (aa 22), .ref (aa 23), .int (gI S 14), .ref (aa 24), .int (gI S 15), .int (gI S 16), .ref (aa 25), .ref (aa 26), .ref (aa 27), .int (gI S 17), .int (gI S 18), .int (gI S 19), .int (gI S 20), .int (gI S 21), .int (gI S 22), .int (gI S 23), .ref (aa 28), .int (gI S 24)].set 28 (.int v))) = mW cI cZ cJ ao aa (sI S 10 v) := rfl
set_option maxRecDepth 100000 in
theorem ms_0_toldMany {cI cZ cJ : ClassId} {ao aa : Nat → Nat} {S : St} {v : Int32} : (mW cI cZ cJ ao aa S).set 0 (ao 0, .inr (10, [.int (gI S 0), .int (gI S 1), .ref (aa 0), .ref (aa 1), .int (gI S 2), .ref (aa 2), .ref (aa 3), .ref (aa 4), .ref (aa 5), .ref (aa 6), .ref (aa 7), .int (gI S 3), .ref (aa 8), .ref (aa 9), .ref (aa 10), .int (gI S 4), .ref (aa 11), .ref (aa 12), .ref (aa 13), .int (gI S 5), .ref (aa 14), .ref (aa 15), .int (gI S 6), .long (gL S 0), .int (gI S 7), .int (gI S 8), .long (gL S 1), .int (gI S 9), .int (gI S 10), .int (gI S 11), .ref (aa 16), .int (gI S 12), .ref (aa 17), .int (gI S 13), .ref (aa 18), .ref (aa 19), .ref (aa 20), .ref (aa 21), .ref (aa 22), .ref (aa 23), .int (gI S 14), .ref (aa 24), .int (gI S 15), .int (gI S 16), .ref (aa 25), .ref (aa 26), .ref (aa 27), .int (gI S 17), .int (gI S 18), .int (gI S 19), .int (gI S 20), .int (gI S 21), .int (gI S 22), .int (gI S 23), .ref (aa 28), .int (gI S 24)].set 29 (.int v))) = mW cI cZ cJ ao aa (sI S 11 v) := rfl
set_option maxRecDepth 100000 in
theorem ms_0_fills {cI cZ cJ : ClassId} {ao aa : Nat → Nat} {S : St} {v : Int32} : (mW cI cZ cJ ao aa S).set 0 (ao 0, .inr (10, [.int (gI S 0), .int (gI S 1), .ref (aa 0), .ref (aa 1), .int (gI S 2), .ref (aa 2), .ref (aa 3), .ref (aa 4), .ref (aa 5), .ref (aa 6), .ref (aa 7), .int (gI S 3), .ref (aa 8), .ref (aa 9), .ref (aa 10), .int (gI S 4), .ref (aa 11), .ref (aa 12), .ref (aa 13), .int (gI S 5), .ref (aa 14), .ref (aa 15), .int (gI S 6), .long (gL S 0), .int (gI S 7), .int (gI S 8), .long (gL S 1), .int (gI S 9), .int (gI S 10), .int (gI S 11), .ref (aa 16), .int (gI S 12), .ref (aa 17), .int (gI S 13), .ref (aa 18), .ref (aa 19), .ref (aa 20), .ref (aa 21), .ref (aa 22), .ref (aa 23), .int (gI S 14), .ref (aa 24), .int (gI S 15), .int (gI S 16), .ref (aa 25), .ref (aa 26), .ref (aa 27), .int (gI S 17), .int (gI S 18), .int (gI S 19), .int (gI S 20), .int (gI S 21), .int (gI S 22), .int (gI S 23), .ref (aa 28), .int (gI S 24)].set 31 (.int v))) = mW cI cZ cJ ao aa (sI S 12 v) := rfl
set_option maxRecDepth 100000 in
theorem ms_0_slotMany {cI cZ cJ : ClassId} {ao aa : Nat → Nat} {S : St} {v : Int32} : (mW cI cZ cJ ao aa S).set 0 (ao 0, .inr (10, [.int (gI S 0), .int (gI S 1), .ref (aa 0), .ref (aa 1), .int (gI S 2), .ref (aa 2), .ref (aa 3), .ref (aa 4), .ref (aa 5), .ref (aa 6), .ref (aa 7), .int (gI S 3), .ref (aa 8), .ref (aa 9), .ref (aa 10), .int (gI S 4), .ref (aa 11), .ref (aa 12), .ref (aa 13), .int (gI S 5), .ref (aa 14), .ref (aa 15), .int (gI S 6), .long (gL S 0), .int (gI S 7), .int (gI S 8), .long (gL S 1), .int (gI S 9), .int (gI S 10), .int (gI S 11), .ref (aa 16), .int (gI S 12), .ref (aa 17), .int (gI S 13), .ref (aa 18), .ref (aa 19), .ref (aa 20), .ref (aa 21), .ref (aa 22), .ref (aa 23), .int (gI S 14), .ref (aa 24), .int (gI S 15), .int (gI S 16), .ref (aa 25), .ref (aa 26), .ref (aa 27), .int (gI S 17), .int (gI S 18), .int (gI S 19), .int (gI S 20), .int (gI S 21), .int (gI S 22), .int (gI S 23), .ref (aa 28), .int (gI S 24)].set 33 (.int v))) = mW cI cZ cJ ao aa (sI S 13 v) := rfl
set_option maxRecDepth 100000 in
theorem ms_0_commandMany {cI cZ cJ : ClassId} {ao aa : Nat → Nat} {S : St} {v : Int32} : (mW cI cZ cJ ao aa S).set 0 (ao 0, .inr (10, [.int (gI S 0), .int (gI S 1), .ref (aa 0), .ref (aa 1), .int (gI S 2), .ref (aa 2), .ref (aa 3), .ref (aa 4), .ref (aa 5), .ref (aa 6), .ref (aa 7), .int (gI S 3), .ref (aa 8), .ref (aa 9), .ref (aa 10), .int (gI S 4), .ref (aa 11), .ref (aa 12), .ref (aa 13), .int (gI S 5), .ref (aa 14), .ref (aa 15), .int (gI S 6), .long (gL S 0), .int (gI S 7), .int (gI S 8), .long (gL S 1), .int (gI S 9), .int (gI S 10), .int (gI S 11), .ref (aa 16), .int (gI S 12), .ref (aa 17), .int (gI S 13), .ref (aa 18), .ref (aa 19), .ref (aa 20), .ref (aa 21), .ref (aa 22), .ref (aa 23), .int (gI S 14), .ref (aa 24), .int (gI S 15), .int (gI S 16), .ref (aa 25), .ref (aa 26), .ref (aa 27), .int (gI S 17), .int (gI S 18), .int (gI S 19), .int (gI S 20), .int (gI S 21), .int (gI S 22), .int (gI S 23), .ref (aa 28), .int (gI S 24)].set 40 (.int v))) = mW cI cZ cJ ao aa (sI S 14 v) := rfl
set_option maxRecDepth 100000 in
theorem ms_0_toWhom {cI cZ cJ : ClassId} {ao aa : Nat → Nat} {S : St} {v : Int32} : (mW cI cZ cJ ao aa S).set 0 (ao 0, .inr (10, [.int (gI S 0), .int (gI S 1), .ref (aa 0), .ref (aa 1), .int (gI S 2), .ref (aa 2), .ref (aa 3), .ref (aa 4), .ref (aa 5), .ref (aa 6), .ref (aa 7), .int (gI S 3), .ref (aa 8), .ref (aa 9), .ref (aa 10), .int (gI S 4), .ref (aa 11), .ref (aa 12), .ref (aa 13), .int (gI S 5), .ref (aa 14), .ref (aa 15), .int (gI S 6), .long (gL S 0), .int (gI S 7), .int (gI S 8), .long (gL S 1), .int (gI S 9), .int (gI S 10), .int (gI S 11), .ref (aa 16), .int (gI S 12), .ref (aa 17), .int (gI S 13), .ref (aa 18), .ref (aa 19), .ref (aa 20), .ref (aa 21), .ref (aa 22), .ref (aa 23), .int (gI S 14), .ref (aa 24), .int (gI S 15), .int (gI S 16), .ref (aa 25), .ref (aa 26), .ref (aa 27), .int (gI S 17), .int (gI S 18), .int (gI S 19), .int (gI S 20), .int (gI S 21), .int (gI S 22), .int (gI S 23), .ref (aa 28), .int (gI S 24)].set 42 (.int v))) = mW cI cZ cJ ao aa (sI S 15 v) := rfl
set_option maxRecDepth 100000 in
theorem ms_0_tried {cI cZ cJ : ClassId} {ao aa : Nat → Nat} {S : St} {v : Int32} : (mW cI cZ cJ ao aa S).set 0 (ao 0, .inr (10, [.int (gI S 0), .int (gI S 1), .ref (aa 0), .ref (aa 1), .int (gI S 2), .ref (aa 2), .ref (aa 3), .ref (aa 4), .ref (aa 5), .ref (aa 6), .ref (aa 7), .int (gI S 3), .ref (aa 8), .ref (aa 9), .ref (aa 10), .int (gI S 4), .ref (aa 11), .ref (aa 12), .ref (aa 13), .int (gI S 5), .ref (aa 14), .ref (aa 15), .int (gI S 6), .long (gL S 0), .int (gI S 7), .int (gI S 8), .long (gL S 1), .int (gI S 9), .int (gI S 10), .int (gI S 11), .ref (aa 16), .int (gI S 12), .ref (aa 17), .int (gI S 13), .ref (aa 18), .ref (aa 19), .ref (aa 20), .ref (aa 21), .ref (aa 22), .ref (aa 23), .int (gI S 14), .ref (aa 24), .int (gI S 15), .int (gI S 16), .ref (aa 25), .ref (aa 26), .ref (aa 27), .int (gI S 17), .int (gI S 18), .int (gI S 19), .int (gI S 20), .int (gI S 21), .int (gI S 22), .int (gI S 23), .ref (aa 28), .int (gI S 24)].set 43 (.int v))) = mW cI cZ cJ ao aa (sI S 16 v) := rfl
set_option maxRecDepth 100000 in
theorem ms_0_isAnswered {cI cZ cJ : ClassId} {ao aa : Nat → Nat} {S : St} {v : Int32} : (mW cI cZ cJ ao aa S).set 0 (ao 0, .inr (10, [.int (gI S 0), .int (gI S 1), .ref (aa 0), .ref (aa 1), .int (gI S 2), .ref (aa 2), .ref (aa 3), .ref (aa 4), .ref (aa 5), .ref (aa 6), .ref (aa 7), .int (gI S 3), .ref (aa 8), .ref (aa 9), .ref (aa 10), .int (gI S 4), .ref (aa 11), .ref (aa 12), .ref (aa 13), .int (gI S 5), .ref (aa 14), .ref (aa 15), .int (gI S 6), .long (gL S 0), .int (gI S 7), .int (gI S 8), .long (gL S 1), .int (gI S 9), .int (gI S 10), .int (gI S 11), .ref (aa 16), .int (gI S 12), .ref (aa 17), .int (gI S 13), .ref (aa 18), .ref (aa 19), .ref (aa 20), .ref (aa 21), .ref (aa 22), .ref (aa 23), .int (gI S 14), .ref (aa 24), .int (gI S 15), .int (gI S 16), .ref (aa 25), .ref (aa 26), .ref (aa 27), .int (gI S 17), .int (gI S 18), .int (gI S 19), .int (gI S 20), .int (gI S 21), .int (gI S 22), .int (gI S 23), .ref (aa 28), .int (gI S 24)].set 47 (.int v))) = mW cI cZ cJ ao aa (sI S 17 v) := rfl
set_option maxRecDepth 100000 in
theorem ms_0_lastError {cI cZ cJ : ClassId} {ao aa : Nat → Nat} {S : St} {v : Int32} : (mW cI cZ cJ ao aa S).set 0 (ao 0, .inr (10, [.int (gI S 0), .int (gI S 1), .ref (aa 0), .ref (aa 1), .int (gI S 2), .ref (aa 2), .ref (aa 3), .ref (aa 4), .ref (aa 5), .ref (aa 6), .ref (aa 7), .int (gI S 3), .ref (aa 8), .ref (aa 9), .ref (aa 10), .int (gI S 4), .ref (aa 11), .ref (aa 12), .ref (aa 13), .int (gI S 5), .ref (aa 14), .ref (aa 15), .int (gI S 6), .long (gL S 0), .int (gI S 7), .int (gI S 8), .long (gL S 1), .int (gI S 9), .int (gI S 10), .int (gI S 11), .ref (aa 16), .int (gI S 12), .ref (aa 17), .int (gI S 13), .ref (aa 18), .ref (aa 19), .ref (aa 20), .ref (aa 21), .ref (aa 22), .ref (aa 23), .int (gI S 14), .ref (aa 24), .int (gI S 15), .int (gI S 16), .ref (aa 25), .ref (aa 26), .ref (aa 27), .int (gI S 17), .int (gI S 18), .int (gI S 19), .int (gI S 20), .int (gI S 21), .int (gI S 22), .int (gI S 23), .ref (aa 28), .int (gI S 24)].set 48 (.int v))) = mW cI cZ cJ ao aa (sI S 18 v) := rfl
set_option maxRecDepth 100000 in
theorem ms_0_errorPlace {cI cZ cJ : ClassId} {ao aa : Nat → Nat} {S : St} {v : Int32} : (mW cI cZ cJ ao aa S).set 0 (ao 0, .inr (10, [.int (gI S 0), .int (gI S 1), .ref (aa 0), .ref (aa 1), .int (gI S 2), .ref (aa 2), .ref (aa 3), .ref (aa 4), .ref (aa 5), .ref (aa 6), .ref (aa 7), .int (gI S 3), .ref (aa 8), .ref (aa 9), .ref (aa 10), .int (gI S 4), .ref (aa 11), .ref (aa 12), .ref (aa 13), .int (gI S 5), .ref (aa 14), .ref (aa 15), .int (gI S 6), .long (gL S 0), .int (gI S 7), .int (gI S 8), .long (gL S 1), .int (gI S 9), .int (gI S 10), .int (gI S 11), .ref (aa 16), .int (gI S 12), .ref (aa 17), .int (gI S 13), .ref (aa 18), .ref (aa 19), .ref (aa 20), .ref (aa 21), .ref (aa 22), .ref (aa 23), .int (gI S 14), .ref (aa 24), .int (gI S 15), .int (gI S 16), .ref (aa 25), .ref (aa 26), .ref (aa 27), .int (gI S 17), .int (gI S 18), .int (gI S 19), .int (gI S 20), .int (gI S 21), .int (gI S 22), .int (gI S 23), .ref (aa 28), .int (gI S 24)].set 49 (.int v))) = mW cI cZ cJ ao aa (sI S 19 v) := rfl
set_option maxRecDepth 100000 in
theorem ms_0_errorLine {cI cZ cJ : ClassId} {ao aa : Nat → Nat} {S : St} {v : Int32} : (mW cI cZ cJ ao aa S).set 0 (ao 0, .inr (10, [.int (gI S 0), .int (gI S 1), .ref (aa 0), .ref (aa 1), .int (gI S 2), .ref (aa 2), .ref (aa 3), .ref (aa 4), .ref (aa 5), .ref (aa 6), .ref (aa 7), .int (gI S 3), .ref (aa 8), .ref (aa 9), .ref (aa 10), .int (gI S 4), .ref (aa 11), .ref (aa 12), .ref (aa 13), .int (gI S 5), .ref (aa 14), .ref (aa 15), .int (gI S 6), .long (gL S 0), .int (gI S 7), .int (gI S 8), .long (gL S 1), .int (gI S 9), .int (gI S 10), .int (gI S 11), .ref (aa 16), .int (gI S 12), .ref (aa 17), .int (gI S 13), .ref (aa 18), .ref (aa 19), .ref (aa 20), .ref (aa 21), .ref (aa 22), .ref (aa 23), .int (gI S 14), .ref (aa 24), .int (gI S 15), .int (gI S 16), .ref (aa 25), .ref (aa 26), .ref (aa 27), .int (gI S 17), .int (gI S 18), .int (gI S 19), .int (gI S 20), .int (gI S 21), .int (gI S 22), .int (gI S 23), .ref (aa 28), .int (gI S 24)].set 50 (.int v))) = mW cI cZ cJ ao aa (sI S 20 v) := rfl
set_option maxRecDepth 100000 in
theorem ms_0_askedKind {cI cZ cJ : ClassId} {ao aa : Nat → Nat} {S : St} {v : Int32} : (mW cI cZ cJ ao aa S).set 0 (ao 0, .inr (10, [.int (gI S 0), .int (gI S 1), .ref (aa 0), .ref (aa 1), .int (gI S 2), .ref (aa 2), .ref (aa 3), .ref (aa 4), .ref (aa 5), .ref (aa 6), .ref (aa 7), .int (gI S 3), .ref (aa 8), .ref (aa 9), .ref (aa 10), .int (gI S 4), .ref (aa 11), .ref (aa 12), .ref (aa 13), .int (gI S 5), .ref (aa 14), .ref (aa 15), .int (gI S 6), .long (gL S 0), .int (gI S 7), .int (gI S 8), .long (gL S 1), .int (gI S 9), .int (gI S 10), .int (gI S 11), .ref (aa 16), .int (gI S 12), .ref (aa 17), .int (gI S 13), .ref (aa 18), .ref (aa 19), .ref (aa 20), .ref (aa 21), .ref (aa 22), .ref (aa 23), .int (gI S 14), .ref (aa 24), .int (gI S 15), .int (gI S 16), .ref (aa 25), .ref (aa 26), .ref (aa 27), .int (gI S 17), .int (gI S 18), .int (gI S 19), .int (gI S 20), .int (gI S 21), .int (gI S 22), .int (gI S 23), .ref (aa 28), .int (gI S 24)].set 51 (.int v))) = mW cI cZ cJ ao aa (sI S 21 v) := rfl
set_option maxRecDepth 100000 in
theorem ms_0_hasAction {cI cZ cJ : ClassId} {ao aa : Nat → Nat} {S : St} {v : Int32} : (mW cI cZ cJ ao aa S).set 0 (ao 0, .inr (10, [.int (gI S 0), .int (gI S 1), .ref (aa 0), .ref (aa 1), .int (gI S 2), .ref (aa 2), .ref (aa 3), .ref (aa 4), .ref (aa 5), .ref (aa 6), .ref (aa 7), .int (gI S 3), .ref (aa 8), .ref (aa 9), .ref (aa 10), .int (gI S 4), .ref (aa 11), .ref (aa 12), .ref (aa 13), .int (gI S 5), .ref (aa 14), .ref (aa 15), .int (gI S 6), .long (gL S 0), .int (gI S 7), .int (gI S 8), .long (gL S 1), .int (gI S 9), .int (gI S 10), .int (gI S 11), .ref (aa 16), .int (gI S 12), .ref (aa 17), .int (gI S 13), .ref (aa 18), .ref (aa 19), .ref (aa 20), .ref (aa 21), .ref (aa 22), .ref (aa 23), .int (gI S 14), .ref (aa 24), .int (gI S 15), .int (gI S 16), .ref (aa 25), .ref (aa 26), .ref (aa 27), .int (gI S 17), .int (gI S 18), .int (gI S 19), .int (gI S 20), .int (gI S 21), .int (gI S 22), .int (gI S 23), .ref (aa 28), .int (gI S 24)].set 52 (.int v))) = mW cI cZ cJ ao aa (sI S 22 v) := rfl
set_option maxRecDepth 100000 in
theorem ms_0_againMany {cI cZ cJ : ClassId} {ao aa : Nat → Nat} {S : St} {v : Int32} : (mW cI cZ cJ ao aa S).set 0 (ao 0, .inr (10, [.int (gI S 0), .int (gI S 1), .ref (aa 0), .ref (aa 1), .int (gI S 2), .ref (aa 2), .ref (aa 3), .ref (aa 4), .ref (aa 5), .ref (aa 6), .ref (aa 7), .int (gI S 3), .ref (aa 8), .ref (aa 9), .ref (aa 10), .int (gI S 4), .ref (aa 11), .ref (aa 12), .ref (aa 13), .int (gI S 5), .ref (aa 14), .ref (aa 15), .int (gI S 6), .long (gL S 0), .int (gI S 7), .int (gI S 8), .long (gL S 1), .int (gI S 9), .int (gI S 10), .int (gI S 11), .ref (aa 16), .int (gI S 12), .ref (aa 17), .int (gI S 13), .ref (aa 18), .ref (aa 19), .ref (aa 20), .ref (aa 21), .ref (aa 22), .ref (aa 23), .int (gI S 14), .ref (aa 24), .int (gI S 15), .int (gI S 16), .ref (aa 25), .ref (aa 26), .ref (aa 27), .int (gI S 17), .int (gI S 18), .int (gI S 19), .int (gI S 20), .int (gI S 21), .int (gI S 22), .int (gI S 23), .ref (aa 28), .int (gI S 24)].set 53 (.int v))) = mW cI cZ cJ ao aa (sI S 23 v) := rfl
set_option maxRecDepth 100000 in
theorem ms_0_againTo {cI cZ cJ : ClassId} {ao aa : Nat → Nat} {S : St} {v : Int32} : (mW cI cZ cJ ao aa S).set 0 (ao 0, .inr (10, [.int (gI S 0), .int (gI S 1), .ref (aa 0), .ref (aa 1), .int (gI S 2), .ref (aa 2), .ref (aa 3), .ref (aa 4), .ref (aa 5), .ref (aa 6), .ref (aa 7), .int (gI S 3), .ref (aa 8), .ref (aa 9), .ref (aa 10), .int (gI S 4), .ref (aa 11), .ref (aa 12), .ref (aa 13), .int (gI S 5), .ref (aa 14), .ref (aa 15), .int (gI S 6), .long (gL S 0), .int (gI S 7), .int (gI S 8), .long (gL S 1), .int (gI S 9), .int (gI S 10), .int (gI S 11), .ref (aa 16), .int (gI S 12), .ref (aa 17), .int (gI S 13), .ref (aa 18), .ref (aa 19), .ref (aa 20), .ref (aa 21), .ref (aa 22), .ref (aa 23), .int (gI S 14), .ref (aa 24), .int (gI S 15), .int (gI S 16), .ref (aa 25), .ref (aa 26), .ref (aa 27), .int (gI S 17), .int (gI S 18), .int (gI S 19), .int (gI S 20), .int (gI S 21), .int (gI S 22), .int (gI S 23), .ref (aa 28), .int (gI S 24)].set 55 (.int v))) = mW cI cZ cJ ao aa (sI S 24 v) := rfl
theorem ma_0 {cI cZ cJ : ClassId} {ao aa : Nat → Nat} {S : St} : (mW cI cZ cJ ao aa S)[1]? = some (aa 0, .inl (cI, 60, .inl (gA S 0))) := rfl
set_option maxRecDepth 100000 in
theorem mt_0 {cI cZ cJ : ClassId} {ao aa : Nat → Nat} {S : St} {i : Nat} {v : Int32} : (mW cI cZ cJ ao aa S).set 1 (aa 0, .inl (cI, 60, .inl (upd (gA S 0) i v))) = mW cI cZ cJ ao aa (sA S 0 i v) := rfl
theorem ma_1 {cI cZ cJ : ClassId} {ao aa : Nat → Nat} {S : St} : (mW cI cZ cJ ao aa S)[2]? = some (aa 1, .inl (cI, 60, .inl (gA S 1))) := rfl
set_option maxRecDepth 100000 in
theorem mt_1 {cI cZ cJ : ClassId} {ao aa : Nat → Nat} {S : St} {i : Nat} {v : Int32} : (mW cI cZ cJ ao aa S).set 2 (aa 1, .inl (cI, 60, .inl (upd (gA S 1) i v))) = mW cI cZ cJ ao aa (sA S 1 i v) := rfl
theorem ma_2 {cI cZ cJ : ClassId} {ao aa : Nat → Nat} {S : St} : (mW cI cZ cJ ao aa S)[3]? = some (aa 2, .inl (cI, 60, .inl (gA S 2))) := rfl
set_option maxRecDepth 100000 in
theorem mt_2 {cI cZ cJ : ClassId} {ao aa : Nat → Nat} {S : St} {i : Nat} {v : Int32} : (mW cI cZ cJ ao aa S).set 3 (aa 2, .inl (cI, 60, .inl (upd (gA S 2) i v))) = mW cI cZ cJ ao aa (sA S 2 i v) := rfl
theorem ma_3 {cI cZ cJ : ClassId} {ao aa : Nat → Nat} {S : St} : (mW cI cZ cJ ao aa S)[4]? = some (aa 3, .inl (cI, 60, .inl (gA S 3))) := rfl
set_option maxRecDepth 100000 in
theorem mt_3 {cI cZ cJ : ClassId} {ao aa : Nat → Nat} {S : St} {i : Nat} {v : Int32} : (mW cI cZ cJ ao aa S).set 4 (aa 3, .inl (cI, 60, .inl (upd (gA S 3) i v))) = mW cI cZ cJ ao aa (sA S 3 i v) := rfl
theorem ma_4 {cI cZ cJ : ClassId} {ao aa : Nat → Nat} {S : St} : (mW cI cZ cJ ao aa S)[5]? = some (aa 4, .inl (cZ, 60, .inl (gA S 4))) := rfl
set_option maxRecDepth 100000 in
theorem mt_4 {cI cZ cJ : ClassId} {ao aa : Nat → Nat} {S : St} {i : Nat} {v : Int32} : (mW cI cZ cJ ao aa S).set 5 (aa 4, .inl (cZ, 60, .inl (upd (gA S 4) i v))) = mW cI cZ cJ ao aa (sA S 4 i v) := rfl
theorem ma_5 {cI cZ cJ : ClassId} {ao aa : Nat → Nat} {S : St} : (mW cI cZ cJ ao aa S)[6]? = some (aa 5, .inl (cI, 60, .inl (gA S 5))) := rfl
set_option maxRecDepth 100000 in
theorem mt_5 {cI cZ cJ : ClassId} {ao aa : Nat → Nat} {S : St} {i : Nat} {v : Int32} : (mW cI cZ cJ ao aa S).set 6 (aa 5, .inl (cI, 60, .inl (upd (gA S 5) i v))) = mW cI cZ cJ ao aa (sA S 5 i v) := rfl
theorem ma_6 {cI cZ cJ : ClassId} {ao aa : Nat → Nat} {S : St} : (mW cI cZ cJ ao aa S)[7]? = some (aa 6, .inl (cI, 480, .inl (gA S 6))) := rfl
set_option maxRecDepth 100000 in
theorem mt_6 {cI cZ cJ : ClassId} {ao aa : Nat → Nat} {S : St} {i : Nat} {v : Int32} : (mW cI cZ cJ ao aa S).set 7 (aa 6, .inl (cI, 480, .inl (upd (gA S 6) i v))) = mW cI cZ cJ ao aa (sA S 6 i v) := rfl
theorem ma_7 {cI cZ cJ : ClassId} {ao aa : Nat → Nat} {S : St} : (mW cI cZ cJ ao aa S)[8]? = some (aa 7, .inl (cI, 480, .inl (gA S 7))) := rfl
set_option maxRecDepth 100000 in
theorem mt_7 {cI cZ cJ : ClassId} {ao aa : Nat → Nat} {S : St} {i : Nat} {v : Int32} : (mW cI cZ cJ ao aa S).set 8 (aa 7, .inl (cI, 480, .inl (upd (gA S 7) i v))) = mW cI cZ cJ ao aa (sA S 7 i v) := rfl
theorem ma_8 {cI cZ cJ : ClassId} {ao aa : Nat → Nat} {S : St} : (mW cI cZ cJ ao aa S)[9]? = some (aa 8, .inl (cI, 40, .inl (gA S 8))) := rfl
set_option maxRecDepth 100000 in
theorem mt_8 {cI cZ cJ : ClassId} {ao aa : Nat → Nat} {S : St} {i : Nat} {v : Int32} : (mW cI cZ cJ ao aa S).set 9 (aa 8, .inl (cI, 40, .inl (upd (gA S 8) i v))) = mW cI cZ cJ ao aa (sA S 8 i v) := rfl
theorem ma_9 {cI cZ cJ : ClassId} {ao aa : Nat → Nat} {S : St} : (mW cI cZ cJ ao aa S)[10]? = some (aa 9, .inl (cI, 40, .inl (gA S 9))) := rfl
set_option maxRecDepth 100000 in
theorem mt_9 {cI cZ cJ : ClassId} {ao aa : Nat → Nat} {S : St} {i : Nat} {v : Int32} : (mW cI cZ cJ ao aa S).set 10 (aa 9, .inl (cI, 40, .inl (upd (gA S 9) i v))) = mW cI cZ cJ ao aa (sA S 9 i v) := rfl
theorem ma_10 {cI cZ cJ : ClassId} {ao aa : Nat → Nat} {S : St} : (mW cI cZ cJ ao aa S)[11]? = some (aa 10, .inl (cI, 160, .inl (gA S 10))) := rfl
set_option maxRecDepth 100000 in
theorem mt_10 {cI cZ cJ : ClassId} {ao aa : Nat → Nat} {S : St} {i : Nat} {v : Int32} : (mW cI cZ cJ ao aa S).set 11 (aa 10, .inl (cI, 160, .inl (upd (gA S 10) i v))) = mW cI cZ cJ ao aa (sA S 10 i v) := rfl
theorem ma_11 {cI cZ cJ : ClassId} {ao aa : Nat → Nat} {S : St} : (mW cI cZ cJ ao aa S)[12]? = some (aa 11, .inl (cI, 40, .inl (gA S 11))) := rfl
set_option maxRecDepth 100000 in
theorem mt_11 {cI cZ cJ : ClassId} {ao aa : Nat → Nat} {S : St} {i : Nat} {v : Int32} : (mW cI cZ cJ ao aa S).set 12 (aa 11, .inl (cI, 40, .inl (upd (gA S 11) i v))) = mW cI cZ cJ ao aa (sA S 11 i v) := rfl
theorem ma_12 {cI cZ cJ : ClassId} {ao aa : Nat → Nat} {S : St} : (mW cI cZ cJ ao aa S)[13]? = some (aa 12, .inl (cI, 40, .inl (gA S 12))) := rfl
set_option maxRecDepth 100000 in
theorem mt_12 {cI cZ cJ : ClassId} {ao aa : Nat → Nat} {S : St} {i : Nat} {v : Int32} : (mW cI cZ cJ ao aa S).set 13 (aa 12, .inl (cI, 40, .inl (upd (gA S 12) i v))) = mW cI cZ cJ ao aa (sA S 12 i v) := rfl
theorem ma_13 {cI cZ cJ : ClassId} {ao aa : Nat → Nat} {S : St} : (mW cI cZ cJ ao aa S)[14]? = some (aa 13, .inl (cI, 40, .inl (gA S 13))) := rfl
set_option maxRecDepth 100000 in
theorem mt_13 {cI cZ cJ : ClassId} {ao aa : Nat → Nat} {S : St} {i : Nat} {v : Int32} : (mW cI cZ cJ ao aa S).set 14 (aa 13, .inl (cI, 40, .inl (upd (gA S 13) i v))) = mW cI cZ cJ ao aa (sA S 13 i v) := rfl
theorem ma_14 {cI cZ cJ : ClassId} {ao aa : Nat → Nat} {S : St} : (mW cI cZ cJ ao aa S)[15]? = some (aa 14, .inl (cI, 60, .inl (gA S 14))) := rfl
set_option maxRecDepth 100000 in
theorem mt_14 {cI cZ cJ : ClassId} {ao aa : Nat → Nat} {S : St} {i : Nat} {v : Int32} : (mW cI cZ cJ ao aa S).set 15 (aa 14, .inl (cI, 60, .inl (upd (gA S 14) i v))) = mW cI cZ cJ ao aa (sA S 14 i v) := rfl
theorem ma_15 {cI cZ cJ : ClassId} {ao aa : Nat → Nat} {S : St} : (mW cI cZ cJ ao aa S)[16]? = some (aa 15, .inl (cI, 60, .inl (gA S 15))) := rfl
set_option maxRecDepth 100000 in
theorem mt_15 {cI cZ cJ : ClassId} {ao aa : Nat → Nat} {S : St} {i : Nat} {v : Int32} : (mW cI cZ cJ ao aa S).set 16 (aa 15, .inl (cI, 60, .inl (upd (gA S 15) i v))) = mW cI cZ cJ ao aa (sA S 15 i v) := rfl
theorem ma_16 {cI cZ cJ : ClassId} {ao aa : Nat → Nat} {S : St} : (mW cI cZ cJ ao aa S)[17]? = some (aa 16, .inl (cI, 8, .inl (gA S 16))) := rfl
set_option maxRecDepth 100000 in
theorem mt_16 {cI cZ cJ : ClassId} {ao aa : Nat → Nat} {S : St} {i : Nat} {v : Int32} : (mW cI cZ cJ ao aa S).set 17 (aa 16, .inl (cI, 8, .inl (upd (gA S 16) i v))) = mW cI cZ cJ ao aa (sA S 16 i v) := rfl
theorem ma_17 {cI cZ cJ : ClassId} {ao aa : Nat → Nat} {S : St} : (mW cI cZ cJ ao aa S)[18]? = some (aa 17, .inl (cI, 8, .inl (gA S 17))) := rfl
set_option maxRecDepth 100000 in
theorem mt_17 {cI cZ cJ : ClassId} {ao aa : Nat → Nat} {S : St} {i : Nat} {v : Int32} : (mW cI cZ cJ ao aa S).set 18 (aa 17, .inl (cI, 8, .inl (upd (gA S 17) i v))) = mW cI cZ cJ ao aa (sA S 17 i v) := rfl
theorem ma_18 {cI cZ cJ : ClassId} {ao aa : Nat → Nat} {S : St} : (mW cI cZ cJ ao aa S)[19]? = some (aa 18, .inl (cI, 2, .inl (gA S 18))) := rfl
set_option maxRecDepth 100000 in
theorem mt_18 {cI cZ cJ : ClassId} {ao aa : Nat → Nat} {S : St} {i : Nat} {v : Int32} : (mW cI cZ cJ ao aa S).set 19 (aa 18, .inl (cI, 2, .inl (upd (gA S 18) i v))) = mW cI cZ cJ ao aa (sA S 18 i v) := rfl
theorem ma_19 {cI cZ cJ : ClassId} {ao aa : Nat → Nat} {S : St} : (mW cI cZ cJ ao aa S)[20]? = some (aa 19, .inl (cI, 2, .inl (gA S 19))) := rfl
set_option maxRecDepth 100000 in
theorem mt_19 {cI cZ cJ : ClassId} {ao aa : Nat → Nat} {S : St} {i : Nat} {v : Int32} : (mW cI cZ cJ ao aa S).set 20 (aa 19, .inl (cI, 2, .inl (upd (gA S 19) i v))) = mW cI cZ cJ ao aa (sA S 19 i v) := rfl
theorem ma_20 {cI cZ cJ : ClassId} {ao aa : Nat → Nat} {S : St} : (mW cI cZ cJ ao aa S)[21]? = some (aa 20, .inl (cJ, 2, .inr (.inl (gB S 20)))) := rfl
set_option maxRecDepth 100000 in
theorem mt_20 {cI cZ cJ : ClassId} {ao aa : Nat → Nat} {S : St} {i : Nat} {v : Int64} : (mW cI cZ cJ ao aa S).set 21 (aa 20, .inl (cJ, 2, .inr (.inl (vp_updL (gB S 20) i v)))) = mW cI cZ cJ ao aa (sB S 20 i v) := rfl
theorem ma_21 {cI cZ cJ : ClassId} {ao aa : Nat → Nat} {S : St} : (mW cI cZ cJ ao aa S)[22]? = some (aa 21, .inl (cI, 2, .inl (gA S 21))) := rfl
set_option maxRecDepth 100000 in
theorem mt_21 {cI cZ cJ : ClassId} {ao aa : Nat → Nat} {S : St} {i : Nat} {v : Int32} : (mW cI cZ cJ ao aa S).set 22 (aa 21, .inl (cI, 2, .inl (upd (gA S 21) i v))) = mW cI cZ cJ ao aa (sA S 21 i v) := rfl
theorem ma_22 {cI cZ cJ : ClassId} {ao aa : Nat → Nat} {S : St} : (mW cI cZ cJ ao aa S)[23]? = some (aa 22, .inl (cI, 2, .inl (gA S 22))) := rfl
set_option maxRecDepth 100000 in
theorem mt_22 {cI cZ cJ : ClassId} {ao aa : Nat → Nat} {S : St} {i : Nat} {v : Int32} : (mW cI cZ cJ ao aa S).set 23 (aa 22, .inl (cI, 2, .inl (upd (gA S 22) i v))) = mW cI cZ cJ ao aa (sA S 22 i v) := rfl
theorem ma_23 {cI cZ cJ : ClassId} {ao aa : Nat → Nat} {S : St} : (mW cI cZ cJ ao aa S)[24]? = some (aa 23, .inl (cI, 2, .inl (gA S 23))) := rfl
set_option maxRecDepth 100000 in
theorem mt_23 {cI cZ cJ : ClassId} {ao aa : Nat → Nat} {S : St} {i : Nat} {v : Int32} : (mW cI cZ cJ ao aa S).set 24 (aa 23, .inl (cI, 2, .inl (upd (gA S 23) i v))) = mW cI cZ cJ ao aa (sA S 23 i v) := rfl
theorem ma_24 {cI cZ cJ : ClassId} {ao aa : Nat → Nat} {S : St} : (mW cI cZ cJ ao aa S)[25]? = some (aa 24, .inl (cI, 60, .inl (gA S 24))) := rfl
set_option maxRecDepth 100000 in
theorem mt_24 {cI cZ cJ : ClassId} {ao aa : Nat → Nat} {S : St} {i : Nat} {v : Int32} : (mW cI cZ cJ ao aa S).set 25 (aa 24, .inl (cI, 60, .inl (upd (gA S 24) i v))) = mW cI cZ cJ ao aa (sA S 24 i v) := rfl
theorem ma_25 {cI cZ cJ : ClassId} {ao aa : Nat → Nat} {S : St} : (mW cI cZ cJ ao aa S)[26]? = some (aa 25, .inl (cI, 60, .inl (gA S 25))) := rfl
set_option maxRecDepth 100000 in
theorem mt_25 {cI cZ cJ : ClassId} {ao aa : Nat → Nat} {S : St} {i : Nat} {v : Int32} : (mW cI cZ cJ ao aa S).set 26 (aa 25, .inl (cI, 60, .inl (upd (gA S 25) i v))) = mW cI cZ cJ ao aa (sA S 25 i v) := rfl
theorem ma_26 {cI cZ cJ : ClassId} {ao aa : Nat → Nat} {S : St} : (mW cI cZ cJ ao aa S)[27]? = some (aa 26, .inl (cI, 60, .inl (gA S 26))) := rfl
set_option maxRecDepth 100000 in
theorem mt_26 {cI cZ cJ : ClassId} {ao aa : Nat → Nat} {S : St} {i : Nat} {v : Int32} : (mW cI cZ cJ ao aa S).set 27 (aa 26, .inl (cI, 60, .inl (upd (gA S 26) i v))) = mW cI cZ cJ ao aa (sA S 26 i v) := rfl
theorem ma_27 {cI cZ cJ : ClassId} {ao aa : Nat → Nat} {S : St} : (mW cI cZ cJ ao aa S)[28]? = some (aa 27, .inl (cI, 60, .inl (gA S 27))) := rfl
set_option maxRecDepth 100000 in
theorem mt_27 {cI cZ cJ : ClassId} {ao aa : Nat → Nat} {S : St} {i : Nat} {v : Int32} : (mW cI cZ cJ ao aa S).set 28 (aa 27, .inl (cI, 60, .inl (upd (gA S 27) i v))) = mW cI cZ cJ ao aa (sA S 27 i v) := rfl
theorem ma_28 {cI cZ cJ : ClassId} {ao aa : Nat → Nat} {S : St} : (mW cI cZ cJ ao aa S)[29]? = some (aa 28, .inl (cI, 60, .inl (gA S 28))) := rfl
set_option maxRecDepth 100000 in
theorem mt_28 {cI cZ cJ : ClassId} {ao aa : Nat → Nat} {S : St} {i : Nat} {v : Int32} : (mW cI cZ cJ ao aa S).set 29 (aa 28, .inl (cI, 60, .inl (upd (gA S 28) i v))) = mW cI cZ cJ ao aa (sA S 28 i v) := rfl
end
