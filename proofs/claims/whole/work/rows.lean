section
-- ===== PART A: goes FIRST, ahead of the names: the tables' words, and 'selects' of the private methods out of them =====
/-- a private method of a class that the tables say can be made, by its rows of tables_1 -/
def lw_okq (q : MethodName × Nat) : Prop := (q.1.cls ≠ "java/lang/invoke/MethodHandle" ∧ q.1.cls ≠ "java/lang/invoke/VarHandle") ∧ Cond.instantiable q.1.cls q.2 ∈ tables_1 ∧ Cond.privateMethod q.1 ∈ tables_1 ∧ Cond.instanceMethod q.1 ∈ tables_1
theorem lw_p0 : lw_okq (⟨"GrammarLines", "mayBeVerbWord", "(I)Z"⟩, 13) := ⟨⟨by decide +kernel, by decide +kernel⟩, List.mem_of_getElem? (i := 15) (by decide +kernel), List.mem_of_getElem? (i := 333) (by decide +kernel), List.mem_of_getElem? (i := 334) (by decide +kernel)⟩
theorem lw_p1 : lw_okq (⟨"GrammarLines$Things", "withAnyOf", "(I)J"⟩, 8) := ⟨⟨by decide +kernel, by decide +kernel⟩, List.mem_of_getElem? (i := 23) (by decide +kernel), List.mem_of_getElem? (i := 454) (by decide +kernel), List.mem_of_getElem? (i := 455) (by decide +kernel)⟩
theorem lw_p2 : lw_okq (⟨"GrammarLines$Values", "indexOf", "(II)I"⟩, 3) := ⟨⟨by decide +kernel, by decide +kernel⟩, List.mem_of_getElem? (i := 118) (by decide +kernel), List.mem_of_getElem? (i := 490) (by decide +kernel), List.mem_of_getElem? (i := 491) (by decide +kernel)⟩
theorem lw_p3 : lw_okq (⟨"GrammarLines", "takeOrder", "()I"⟩, 13) := ⟨⟨by decide +kernel, by decide +kernel⟩, List.mem_of_getElem? (i := 15) (by decide +kernel), List.mem_of_getElem? (i := 531) (by decide +kernel), List.mem_of_getElem? (i := 532) (by decide +kernel)⟩
theorem lw_p4 : lw_okq (⟨"GrammarLines", "takeCommand", "()V"⟩, 13) := ⟨⟨by decide +kernel, by decide +kernel⟩, List.mem_of_getElem? (i := 15) (by decide +kernel), List.mem_of_getElem? (i := 563) (by decide +kernel), List.mem_of_getElem? (i := 564) (by decide +kernel)⟩
theorem lw_p5 : lw_okq (⟨"GrammarLines", "endsCommand", "(I)Z"⟩, 13) := ⟨⟨by decide +kernel, by decide +kernel⟩, List.mem_of_getElem? (i := 15) (by decide +kernel), List.mem_of_getElem? (i := 567) (by decide +kernel), List.mem_of_getElem? (i := 568) (by decide +kernel)⟩
theorem lw_p6 : lw_okq (⟨"GrammarLines", "chooseCommand", "(I)I"⟩, 13) := ⟨⟨by decide +kernel, by decide +kernel⟩, List.mem_of_getElem? (i := 15) (by decide +kernel), List.mem_of_getElem? (i := 574) (by decide +kernel), List.mem_of_getElem? (i := 575) (by decide +kernel)⟩
theorem lw_p7 : lw_okq (⟨"GrammarLines", "tryCommand", "()I"⟩, 13) := ⟨⟨by decide +kernel, by decide +kernel⟩, List.mem_of_getElem? (i := 15) (by decide +kernel), List.mem_of_getElem? (i := 585) (by decide +kernel), List.mem_of_getElem? (i := 586) (by decide +kernel)⟩
theorem lw_p8 : lw_okq (⟨"GrammarLines$Trial", "begin", "(I)V"⟩, 13) := ⟨⟨by decide +kernel, by decide +kernel⟩, List.mem_of_getElem? (i := 159) (by decide +kernel), List.mem_of_getElem? (i := 606) (by decide +kernel), List.mem_of_getElem? (i := 607) (by decide +kernel)⟩
theorem lw_p9 : lw_okq (⟨"GrammarLines$Trial", "fillOrAsk", "(I)V"⟩, 13) := ⟨⟨by decide +kernel, by decide +kernel⟩, List.mem_of_getElem? (i := 159) (by decide +kernel), List.mem_of_getElem? (i := 619) (by decide +kernel), List.mem_of_getElem? (i := 620) (by decide +kernel)⟩
theorem lw_p10 : lw_okq (⟨"GrammarLines$Trial", "fail", "(II)V"⟩, 13) := ⟨⟨by decide +kernel, by decide +kernel⟩, List.mem_of_getElem? (i := 159) (by decide +kernel), List.mem_of_getElem? (i := 627) (by decide +kernel), List.mem_of_getElem? (i := 628) (by decide +kernel)⟩
theorem lw_p11 : lw_okq (⟨"GrammarLines$Trial", "fillFrom", "(I)Z"⟩, 13) := ⟨⟨by decide +kernel, by decide +kernel⟩, List.mem_of_getElem? (i := 159) (by decide +kernel), List.mem_of_getElem? (i := 631) (by decide +kernel), List.mem_of_getElem? (i := 632) (by decide +kernel)⟩
theorem lw_p12 : lw_okq (⟨"GrammarLines$Trial", "openSlot", "(I)LGrammarLines$Slot;"⟩, 13) := ⟨⟨by decide +kernel, by decide +kernel⟩, List.mem_of_getElem? (i := 159) (by decide +kernel), List.mem_of_getElem? (i := 648) (by decide +kernel), List.mem_of_getElem? (i := 649) (by decide +kernel)⟩
theorem lw_p13 : lw_okq (⟨"GrammarLines$Trial", "takeWord", "(I)V"⟩, 13) := ⟨⟨by decide +kernel, by decide +kernel⟩, List.mem_of_getElem? (i := 159) (by decide +kernel), List.mem_of_getElem? (i := 653) (by decide +kernel), List.mem_of_getElem? (i := 654) (by decide +kernel)⟩
theorem lw_p14 : lw_okq (⟨"GrammarLines$Trial", "takeTopic", "(I)V"⟩, 13) := ⟨⟨by decide +kernel, by decide +kernel⟩, List.mem_of_getElem? (i := 159) (by decide +kernel), List.mem_of_getElem? (i := 663) (by decide +kernel), List.mem_of_getElem? (i := 664) (by decide +kernel)⟩
theorem lw_p15 : lw_okq (⟨"GrammarLines$Trial", "takeNumber", "()V"⟩, 13) := ⟨⟨by decide +kernel, by decide +kernel⟩, List.mem_of_getElem? (i := 159) (by decide +kernel), List.mem_of_getElem? (i := 667) (by decide +kernel), List.mem_of_getElem? (i := 668) (by decide +kernel)⟩
def lw_privs_1 : List (MethodName × Nat) := [(⟨"GrammarLines", "mayBeVerbWord", "(I)Z"⟩, 13), (⟨"GrammarLines$Things", "withAnyOf", "(I)J"⟩, 8), (⟨"GrammarLines$Values", "indexOf", "(II)I"⟩, 3), (⟨"GrammarLines", "takeOrder", "()I"⟩, 13), (⟨"GrammarLines", "takeCommand", "()V"⟩, 13), (⟨"GrammarLines", "endsCommand", "(I)Z"⟩, 13), (⟨"GrammarLines", "chooseCommand", "(I)I"⟩, 13), (⟨"GrammarLines", "tryCommand", "()I"⟩, 13), (⟨"GrammarLines$Trial", "begin", "(I)V"⟩, 13), (⟨"GrammarLines$Trial", "fillOrAsk", "(I)V"⟩, 13), (⟨"GrammarLines$Trial", "fail", "(II)V"⟩, 13), (⟨"GrammarLines$Trial", "fillFrom", "(I)Z"⟩, 13), (⟨"GrammarLines$Trial", "openSlot", "(I)LGrammarLines$Slot;"⟩, 13), (⟨"GrammarLines$Trial", "takeWord", "(I)V"⟩, 13), (⟨"GrammarLines$Trial", "takeTopic", "(I)V"⟩, 13), (⟨"GrammarLines$Trial", "takeNumber", "()V"⟩, 13)]
theorem lw_r1 : ∀ q ∈ lw_privs_1, lw_okq q := List.forall_mem_cons.mpr ⟨lw_p0, List.forall_mem_cons.mpr ⟨lw_p1, List.forall_mem_cons.mpr ⟨lw_p2, List.forall_mem_cons.mpr ⟨lw_p3, List.forall_mem_cons.mpr ⟨lw_p4, List.forall_mem_cons.mpr ⟨lw_p5, List.forall_mem_cons.mpr ⟨lw_p6, List.forall_mem_cons.mpr ⟨lw_p7, List.forall_mem_cons.mpr ⟨lw_p8, List.forall_mem_cons.mpr ⟨lw_p9, List.forall_mem_cons.mpr ⟨lw_p10, List.forall_mem_cons.mpr ⟨lw_p11, List.forall_mem_cons.mpr ⟨lw_p12, List.forall_mem_cons.mpr ⟨lw_p13, List.forall_mem_cons.mpr ⟨lw_p14, List.forall_mem_cons.mpr ⟨lw_p15, fun _ h => absurd h List.not_mem_nil⟩⟩⟩⟩⟩⟩⟩⟩⟩⟩⟩⟩⟩⟩⟩⟩
theorem lw_p16 : lw_okq (⟨"GrammarLines$Trial", "takeCustom", "(I)V"⟩, 13) := ⟨⟨by decide +kernel, by decide +kernel⟩, List.mem_of_getElem? (i := 159) (by decide +kernel), List.mem_of_getElem? (i := 671) (by decide +kernel), List.mem_of_getElem? (i := 672) (by decide +kernel)⟩
theorem lw_p17 : lw_okq (⟨"GrammarLines$Trial", "takeOne", "(I)V"⟩, 13) := ⟨⟨by decide +kernel, by decide +kernel⟩, List.mem_of_getElem? (i := 159) (by decide +kernel), List.mem_of_getElem? (i := 679) (by decide +kernel), List.mem_of_getElem? (i := 680) (by decide +kernel)⟩
theorem lw_p18 : lw_okq (⟨"GrammarLines$Trial", "findOne", "(I)J"⟩, 13) := ⟨⟨by decide +kernel, by decide +kernel⟩, List.mem_of_getElem? (i := 159) (by decide +kernel), List.mem_of_getElem? (i := 683) (by decide +kernel), List.mem_of_getElem? (i := 684) (by decide +kernel)⟩
theorem lw_p19 : lw_okq (⟨"GrammarLines$Trial", "takeAll", "(I)V"⟩, 13) := ⟨⟨by decide +kernel, by decide +kernel⟩, List.mem_of_getElem? (i := 159) (by decide +kernel), List.mem_of_getElem? (i := 697) (by decide +kernel), List.mem_of_getElem? (i := 698) (by decide +kernel)⟩
theorem lw_p20 : lw_okq (⟨"GrammarLines$Trial", "takeList", "(I)V"⟩, 13) := ⟨⟨by decide +kernel, by decide +kernel⟩, List.mem_of_getElem? (i := 159) (by decide +kernel), List.mem_of_getElem? (i := 705) (by decide +kernel), List.mem_of_getElem? (i := 706) (by decide +kernel)⟩
theorem lw_p21 : lw_okq (⟨"GrammarLines$Trial", "finish", "()V"⟩, 13) := ⟨⟨by decide +kernel, by decide +kernel⟩, List.mem_of_getElem? (i := 159) (by decide +kernel), List.mem_of_getElem? (i := 709) (by decide +kernel), List.mem_of_getElem? (i := 710) (by decide +kernel)⟩
theorem lw_p22 : lw_okq (⟨"GrammarLines$Trial", "takeOut", "(LGrammarLines$Slot;LGrammarLines$Slot;)V"⟩, 13) := ⟨⟨by decide +kernel, by decide +kernel⟩, List.mem_of_getElem? (i := 159) (by decide +kernel), List.mem_of_getElem? (i := 713) (by decide +kernel), List.mem_of_getElem? (i := 714) (by decide +kernel)⟩
theorem lw_p23 : lw_okq (⟨"GrammarLinesModel", "verbBy", "(I)I"⟩, 56) := ⟨⟨by decide +kernel, by decide +kernel⟩, List.mem_of_getElem? (i := 784) (by decide +kernel), List.mem_of_getElem? (i := 970) (by decide +kernel), List.mem_of_getElem? (i := 971) (by decide +kernel)⟩
theorem lw_p24 : lw_okq (⟨"GrammarLinesModel", "isOfVerb", "(II)V"⟩, 56) := ⟨⟨by decide +kernel, by decide +kernel⟩, List.mem_of_getElem? (i := 784) (by decide +kernel), List.mem_of_getElem? (i := 974) (by decide +kernel), List.mem_of_getElem? (i := 975) (by decide +kernel)⟩
theorem lw_p25 : lw_okq (⟨"GrammarLinesModel", "hasName", "(II)Z"⟩, 56) := ⟨⟨by decide +kernel, by decide +kernel⟩, List.mem_of_getElem? (i := 784) (by decide +kernel), List.mem_of_getElem? (i := 1001) (by decide +kernel), List.mem_of_getElem? (i := 1002) (by decide +kernel)⟩
theorem lw_p26 : lw_okq (⟨"GrammarLinesModel", "pairOf", "(II)I"⟩, 56) := ⟨⟨by decide +kernel, by decide +kernel⟩, List.mem_of_getElem? (i := 784) (by decide +kernel), List.mem_of_getElem? (i := 1013) (by decide +kernel), List.mem_of_getElem? (i := 1014) (by decide +kernel)⟩
theorem lw_p27 : lw_okq (⟨"GrammarLinesModel", "order", "()V"⟩, 56) := ⟨⟨by decide +kernel, by decide +kernel⟩, List.mem_of_getElem? (i := 784) (by decide +kernel), List.mem_of_getElem? (i := 1032) (by decide +kernel), List.mem_of_getElem? (i := 1033) (by decide +kernel)⟩
theorem lw_p28 : lw_okq (⟨"GrammarLinesModel", "take", "([II)V"⟩, 56) := ⟨⟨by decide +kernel, by decide +kernel⟩, List.mem_of_getElem? (i := 784) (by decide +kernel), List.mem_of_getElem? (i := 1036) (by decide +kernel), List.mem_of_getElem? (i := 1037) (by decide +kernel)⟩
theorem lw_p29 : lw_okq (⟨"GrammarLinesModel", "phrase", "(I)I"⟩, 56) := ⟨⟨by decide +kernel, by decide +kernel⟩, List.mem_of_getElem? (i := 784) (by decide +kernel), List.mem_of_getElem? (i := 1040) (by decide +kernel), List.mem_of_getElem? (i := 1041) (by decide +kernel)⟩
theorem lw_p30 : lw_okq (⟨"GrammarLinesModel", "isInScope", "(I)Z"⟩, 56) := ⟨⟨by decide +kernel, by decide +kernel⟩, List.mem_of_getElem? (i := 784) (by decide +kernel), List.mem_of_getElem? (i := 1044) (by decide +kernel), List.mem_of_getElem? (i := 1045) (by decide +kernel)⟩
theorem lw_p31 : lw_okq (⟨"GrammarLinesModel", "isHeld", "(I)Z"⟩, 56) := ⟨⟨by decide +kernel, by decide +kernel⟩, List.mem_of_getElem? (i := 784) (by decide +kernel), List.mem_of_getElem? (i := 1048) (by decide +kernel), List.mem_of_getElem? (i := 1049) (by decide +kernel)⟩
def lw_privs_2 : List (MethodName × Nat) := [(⟨"GrammarLines$Trial", "takeCustom", "(I)V"⟩, 13), (⟨"GrammarLines$Trial", "takeOne", "(I)V"⟩, 13), (⟨"GrammarLines$Trial", "findOne", "(I)J"⟩, 13), (⟨"GrammarLines$Trial", "takeAll", "(I)V"⟩, 13), (⟨"GrammarLines$Trial", "takeList", "(I)V"⟩, 13), (⟨"GrammarLines$Trial", "finish", "()V"⟩, 13), (⟨"GrammarLines$Trial", "takeOut", "(LGrammarLines$Slot;LGrammarLines$Slot;)V"⟩, 13), (⟨"GrammarLinesModel", "verbBy", "(I)I"⟩, 56), (⟨"GrammarLinesModel", "isOfVerb", "(II)V"⟩, 56), (⟨"GrammarLinesModel", "hasName", "(II)Z"⟩, 56), (⟨"GrammarLinesModel", "pairOf", "(II)I"⟩, 56), (⟨"GrammarLinesModel", "order", "()V"⟩, 56), (⟨"GrammarLinesModel", "take", "([II)V"⟩, 56), (⟨"GrammarLinesModel", "phrase", "(I)I"⟩, 56), (⟨"GrammarLinesModel", "isInScope", "(I)Z"⟩, 56), (⟨"GrammarLinesModel", "isHeld", "(I)Z"⟩, 56)]
theorem lw_r2 : ∀ q ∈ lw_privs_2, lw_okq q := List.forall_mem_cons.mpr ⟨lw_p16, List.forall_mem_cons.mpr ⟨lw_p17, List.forall_mem_cons.mpr ⟨lw_p18, List.forall_mem_cons.mpr ⟨lw_p19, List.forall_mem_cons.mpr ⟨lw_p20, List.forall_mem_cons.mpr ⟨lw_p21, List.forall_mem_cons.mpr ⟨lw_p22, List.forall_mem_cons.mpr ⟨lw_p23, List.forall_mem_cons.mpr ⟨lw_p24, List.forall_mem_cons.mpr ⟨lw_p25, List.forall_mem_cons.mpr ⟨lw_p26, List.forall_mem_cons.mpr ⟨lw_p27, List.forall_mem_cons.mpr ⟨lw_p28, List.forall_mem_cons.mpr ⟨lw_p29, List.forall_mem_cons.mpr ⟨lw_p30, List.forall_mem_cons.mpr ⟨lw_p31, fun _ h => absurd h List.not_mem_nil⟩⟩⟩⟩⟩⟩⟩⟩⟩⟩⟩⟩⟩⟩⟩⟩
theorem lw_p32 : lw_okq (⟨"GrammarLinesModel", "manyOf", "(J)I"⟩, 56) := ⟨⟨by decide +kernel, by decide +kernel⟩, List.mem_of_getElem? (i := 784) (by decide +kernel), List.mem_of_getElem? (i := 1052) (by decide +kernel), List.mem_of_getElem? (i := 1053) (by decide +kernel)⟩
theorem lw_p33 : lw_okq (⟨"GrammarLinesModel", "thingOf", "(JI)I"⟩, 56) := ⟨⟨by decide +kernel, by decide +kernel⟩, List.mem_of_getElem? (i := 784) (by decide +kernel), List.mem_of_getElem? (i := 1059) (by decide +kernel), List.mem_of_getElem? (i := 1060) (by decide +kernel)⟩
theorem lw_p34 : lw_okq (⟨"GrammarLinesModel", "isCreature", "(I)Z"⟩, 56) := ⟨⟨by decide +kernel, by decide +kernel⟩, List.mem_of_getElem? (i := 784) (by decide +kernel), List.mem_of_getElem? (i := 1063) (by decide +kernel), List.mem_of_getElem? (i := 1064) (by decide +kernel)⟩
theorem lw_p35 : lw_okq (⟨"GrammarLinesModel", "stands", "(II)Z"⟩, 56) := ⟨⟨by decide +kernel, by decide +kernel⟩, List.mem_of_getElem? (i := 784) (by decide +kernel), List.mem_of_getElem? (i := 1067) (by decide +kernel), List.mem_of_getElem? (i := 1068) (by decide +kernel)⟩
theorem lw_p36 : lw_okq (⟨"GrammarLinesModel", "off", "(I)V"⟩, 56) := ⟨⟨by decide +kernel, by decide +kernel⟩, List.mem_of_getElem? (i := 784) (by decide +kernel), List.mem_of_getElem? (i := 1071) (by decide +kernel), List.mem_of_getElem? (i := 1072) (by decide +kernel)⟩
theorem lw_p37 : lw_okq (⟨"GrammarLinesModel", "begins", "()V"⟩, 56) := ⟨⟨by decide +kernel, by decide +kernel⟩, List.mem_of_getElem? (i := 784) (by decide +kernel), List.mem_of_getElem? (i := 1075) (by decide +kernel), List.mem_of_getElem? (i := 1076) (by decide +kernel)⟩
theorem lw_p38 : lw_okq (⟨"GrammarLinesModel", "isTried", "()I"⟩, 56) := ⟨⟨by decide +kernel, by decide +kernel⟩, List.mem_of_getElem? (i := 784) (by decide +kernel), List.mem_of_getElem? (i := 1079) (by decide +kernel), List.mem_of_getElem? (i := 1080) (by decide +kernel)⟩
theorem lw_p39 : lw_okq (⟨"GrammarLinesModel", "tries", "(I)V"⟩, 56) := ⟨⟨by decide +kernel, by decide +kernel⟩, List.mem_of_getElem? (i := 784) (by decide +kernel), List.mem_of_getElem? (i := 1083) (by decide +kernel), List.mem_of_getElem? (i := 1084) (by decide +kernel)⟩
theorem lw_p40 : lw_okq (⟨"GrammarLinesModel", "ends", "(II)V"⟩, 56) := ⟨⟨by decide +kernel, by decide +kernel⟩, List.mem_of_getElem? (i := 784) (by decide +kernel), List.mem_of_getElem? (i := 1087) (by decide +kernel), List.mem_of_getElem? (i := 1088) (by decide +kernel)⟩
theorem lw_p41 : lw_okq (⟨"GrammarLinesModel", "fails", "(II)V"⟩, 56) := ⟨⟨by decide +kernel, by decide +kernel⟩, List.mem_of_getElem? (i := 784) (by decide +kernel), List.mem_of_getElem? (i := 1091) (by decide +kernel), List.mem_of_getElem? (i := 1092) (by decide +kernel)⟩
theorem lw_p42 : lw_okq (⟨"GrammarLinesModel", "isFilled", "(II)Z"⟩, 56) := ⟨⟨by decide +kernel, by decide +kernel⟩, List.mem_of_getElem? (i := 784) (by decide +kernel), List.mem_of_getElem? (i := 1095) (by decide +kernel), List.mem_of_getElem? (i := 1096) (by decide +kernel)⟩
theorem lw_p43 : lw_okq (⟨"GrammarLinesModel", "goesWith", "(II)Z"⟩, 56) := ⟨⟨by decide +kernel, by decide +kernel⟩, List.mem_of_getElem? (i := 784) (by decide +kernel), List.mem_of_getElem? (i := 1099) (by decide +kernel), List.mem_of_getElem? (i := 1100) (by decide +kernel)⟩
theorem lw_p44 : lw_okq (⟨"GrammarLinesModel", "isWorn", "(I)Z"⟩, 56) := ⟨⟨by decide +kernel, by decide +kernel⟩, List.mem_of_getElem? (i := 784) (by decide +kernel), List.mem_of_getElem? (i := 1103) (by decide +kernel), List.mem_of_getElem? (i := 1104) (by decide +kernel)⟩
theorem lw_p45 : lw_okq (⟨"GrammarLinesModel", "slot", "(II)V"⟩, 56) := ⟨⟨by decide +kernel, by decide +kernel⟩, List.mem_of_getElem? (i := 784) (by decide +kernel), List.mem_of_getElem? (i := 1107) (by decide +kernel), List.mem_of_getElem? (i := 1108) (by decide +kernel)⟩
theorem lw_p46 : lw_okq (⟨"GrammarLinesModel", "next", "(II)I"⟩, 56) := ⟨⟨by decide +kernel, by decide +kernel⟩, List.mem_of_getElem? (i := 784) (by decide +kernel), List.mem_of_getElem? (i := 1111) (by decide +kernel), List.mem_of_getElem? (i := 1112) (by decide +kernel)⟩
theorem lw_p47 : lw_okq (⟨"GrammarLinesModel", "takes", "(III)I"⟩, 56) := ⟨⟨by decide +kernel, by decide +kernel⟩, List.mem_of_getElem? (i := 784) (by decide +kernel), List.mem_of_getElem? (i := 1115) (by decide +kernel), List.mem_of_getElem? (i := 1116) (by decide +kernel)⟩
def lw_privs_3 : List (MethodName × Nat) := [(⟨"GrammarLinesModel", "manyOf", "(J)I"⟩, 56), (⟨"GrammarLinesModel", "thingOf", "(JI)I"⟩, 56), (⟨"GrammarLinesModel", "isCreature", "(I)Z"⟩, 56), (⟨"GrammarLinesModel", "stands", "(II)Z"⟩, 56), (⟨"GrammarLinesModel", "off", "(I)V"⟩, 56), (⟨"GrammarLinesModel", "begins", "()V"⟩, 56), (⟨"GrammarLinesModel", "isTried", "()I"⟩, 56), (⟨"GrammarLinesModel", "tries", "(I)V"⟩, 56), (⟨"GrammarLinesModel", "ends", "(II)V"⟩, 56), (⟨"GrammarLinesModel", "fails", "(II)V"⟩, 56), (⟨"GrammarLinesModel", "isFilled", "(II)Z"⟩, 56), (⟨"GrammarLinesModel", "goesWith", "(II)Z"⟩, 56), (⟨"GrammarLinesModel", "isWorn", "(I)Z"⟩, 56), (⟨"GrammarLinesModel", "slot", "(II)V"⟩, 56), (⟨"GrammarLinesModel", "next", "(II)I"⟩, 56), (⟨"GrammarLinesModel", "takes", "(III)I"⟩, 56)]
theorem lw_r3 : ∀ q ∈ lw_privs_3, lw_okq q := List.forall_mem_cons.mpr ⟨lw_p32, List.forall_mem_cons.mpr ⟨lw_p33, List.forall_mem_cons.mpr ⟨lw_p34, List.forall_mem_cons.mpr ⟨lw_p35, List.forall_mem_cons.mpr ⟨lw_p36, List.forall_mem_cons.mpr ⟨lw_p37, List.forall_mem_cons.mpr ⟨lw_p38, List.forall_mem_cons.mpr ⟨lw_p39, List.forall_mem_cons.mpr ⟨lw_p40, List.forall_mem_cons.mpr ⟨lw_p41, List.forall_mem_cons.mpr ⟨lw_p42, List.forall_mem_cons.mpr ⟨lw_p43, List.forall_mem_cons.mpr ⟨lw_p44, List.forall_mem_cons.mpr ⟨lw_p45, List.forall_mem_cons.mpr ⟨lw_p46, List.forall_mem_cons.mpr ⟨lw_p47, fun _ h => absurd h List.not_mem_nil⟩⟩⟩⟩⟩⟩⟩⟩⟩⟩⟩⟩⟩⟩⟩⟩
theorem lw_p48 : lw_okq (⟨"GrammarLinesModel", "isOneOf", "(III)Z"⟩, 56) := ⟨⟨by decide +kernel, by decide +kernel⟩, List.mem_of_getElem? (i := 784) (by decide +kernel), List.mem_of_getElem? (i := 1119) (by decide +kernel), List.mem_of_getElem? (i := 1120) (by decide +kernel)⟩
theorem lw_p49 : lw_okq (⟨"GrammarLinesModel", "takesOne", "(II)I"⟩, 56) := ⟨⟨by decide +kernel, by decide +kernel⟩, List.mem_of_getElem? (i := 784) (by decide +kernel), List.mem_of_getElem? (i := 1123) (by decide +kernel), List.mem_of_getElem? (i := 1124) (by decide +kernel)⟩
theorem lw_p50 : lw_okq (⟨"GrammarLinesModel", "joins", "(I)Z"⟩, 56) := ⟨⟨by decide +kernel, by decide +kernel⟩, List.mem_of_getElem? (i := 784) (by decide +kernel), List.mem_of_getElem? (i := 1127) (by decide +kernel), List.mem_of_getElem? (i := 1128) (by decide +kernel)⟩
theorem lw_p51 : lw_okq (⟨"GrammarLinesModel", "takesSeveral", "(II)I"⟩, 56) := ⟨⟨by decide +kernel, by decide +kernel⟩, List.mem_of_getElem? (i := 784) (by decide +kernel), List.mem_of_getElem? (i := 1131) (by decide +kernel), List.mem_of_getElem? (i := 1132) (by decide +kernel)⟩
theorem lw_p52 : lw_okq (⟨"GrammarLinesModel", "lacksOne", "(I)I"⟩, 56) := ⟨⟨by decide +kernel, by decide +kernel⟩, List.mem_of_getElem? (i := 784) (by decide +kernel), List.mem_of_getElem? (i := 1136) (by decide +kernel), List.mem_of_getElem? (i := 1137) (by decide +kernel)⟩
theorem lw_p53 : lw_okq (⟨"GrammarLinesModel", "takesTopic", "(III)I"⟩, 56) := ⟨⟨by decide +kernel, by decide +kernel⟩, List.mem_of_getElem? (i := 784) (by decide +kernel), List.mem_of_getElem? (i := 1140) (by decide +kernel), List.mem_of_getElem? (i := 1141) (by decide +kernel)⟩
theorem lw_p54 : lw_okq (⟨"GrammarLinesModel", "others", "()V"⟩, 56) := ⟨⟨by decide +kernel, by decide +kernel⟩, List.mem_of_getElem? (i := 784) (by decide +kernel), List.mem_of_getElem? (i := 1144) (by decide +kernel), List.mem_of_getElem? (i := 1145) (by decide +kernel)⟩
theorem lw_p55 : lw_okq (⟨"GrammarLinesModel", "without", "(I)I"⟩, 56) := ⟨⟨by decide +kernel, by decide +kernel⟩, List.mem_of_getElem? (i := 784) (by decide +kernel), List.mem_of_getElem? (i := 1148) (by decide +kernel), List.mem_of_getElem? (i := 1149) (by decide +kernel)⟩
theorem lw_p56 : lw_okq (⟨"GrammarLinesModel", "comesIn", "(II)V"⟩, 56) := ⟨⟨by decide +kernel, by decide +kernel⟩, List.mem_of_getElem? (i := 784) (by decide +kernel), List.mem_of_getElem? (i := 1157) (by decide +kernel), List.mem_of_getElem? (i := 1158) (by decide +kernel)⟩
def lw_privs_4 : List (MethodName × Nat) := [(⟨"GrammarLinesModel", "isOneOf", "(III)Z"⟩, 56), (⟨"GrammarLinesModel", "takesOne", "(II)I"⟩, 56), (⟨"GrammarLinesModel", "joins", "(I)Z"⟩, 56), (⟨"GrammarLinesModel", "takesSeveral", "(II)I"⟩, 56), (⟨"GrammarLinesModel", "lacksOne", "(I)I"⟩, 56), (⟨"GrammarLinesModel", "takesTopic", "(III)I"⟩, 56), (⟨"GrammarLinesModel", "others", "()V"⟩, 56), (⟨"GrammarLinesModel", "without", "(I)I"⟩, 56), (⟨"GrammarLinesModel", "comesIn", "(II)V"⟩, 56)]
theorem lw_r4 : ∀ q ∈ lw_privs_4, lw_okq q := List.forall_mem_cons.mpr ⟨lw_p48, List.forall_mem_cons.mpr ⟨lw_p49, List.forall_mem_cons.mpr ⟨lw_p50, List.forall_mem_cons.mpr ⟨lw_p51, List.forall_mem_cons.mpr ⟨lw_p52, List.forall_mem_cons.mpr ⟨lw_p53, List.forall_mem_cons.mpr ⟨lw_p54, List.forall_mem_cons.mpr ⟨lw_p55, List.forall_mem_cons.mpr ⟨lw_p56, fun _ h => absurd h List.not_mem_nil⟩⟩⟩⟩⟩⟩⟩⟩⟩
def lw_privs : List (MethodName × Nat) := lw_privs_1 ++ (lw_privs_2 ++ (lw_privs_3 ++ (lw_privs_4)))
def lw_tbl : List Cond := k2_sels lw_privs ++ tables_1
theorem lw_privs_ok : ∀ q ∈ lw_privs, lw_okq q := by
  show ∀ q ∈ lw_privs_1 ++ (lw_privs_2 ++ (lw_privs_3 ++ (lw_privs_4))), lw_okq q
  exact List.forall_mem_append.mpr ⟨lw_r1, List.forall_mem_append.mpr ⟨lw_r2, List.forall_mem_append.mpr ⟨lw_r3, lw_r4⟩⟩⟩
-- ===== end of PART A; then your names; then what follows =====
end
section
def R_Row : String := "GrammarLines$Row"
def F_Row : u_T := fun k => match k with
  | 0 => ("GrammarLines$Row", "items", "[I", true)
  | _ => ("GrammarLines$Row", "size", "I", false)
def t_Row : Nat → FieldType := fun k => match k with
  | 0 => .array .int
  | _ => .int
theorem n_Row : ∀ a, a < 2 → ∀ b, b < 2 → a ≠ b → (F_Row a).2.1 ≠ (F_Row b).2.1 := by decide +kernel
theorem t_Row_ok : ∀ k, k < 2 → parseFieldDescriptor (F_Row k).2.2.1 = some (t_Row k) := by decide +kernel
def R_Slot : String := "GrammarLines$Slot"
def F_Slot : u_T := fun k => match k with
  | 0 => ("GrammarLines$Slot", "items", "LGrammarLines$Row;", true)
  | 1 => ("GrammarLines$Slot", "kind", "I", false)
  | 2 => ("GrammarLines$Slot", "place", "I", false)
  | _ => ("GrammarLines$Slot", "things", "J", false)
def t_Slot : Nat → FieldType := fun k => match k with
  | 0 => .object "GrammarLines$Row"
  | 1 => .int
  | 2 => .int
  | _ => .long
theorem n_Slot : ∀ a, a < 4 → ∀ b, b < 4 → a ≠ b → (F_Slot a).2.1 ≠ (F_Slot b).2.1 := by decide +kernel
theorem t_Slot_ok : ∀ k, k < 4 → parseFieldDescriptor (F_Slot k).2.2.1 = some (t_Slot k) := by decide +kernel
def R_Phrase : String := "GrammarLines$Phrase"
def F_Phrase : u_T := fun k => match k with
  | 0 => ("GrammarLines$Phrase", "things", "LGrammarLines$Things;", true)
  | 1 => ("GrammarLines$Phrase", "its", "J", false)
  | _ => ("GrammarLines$Phrase", "end", "I", false)
def t_Phrase : Nat → FieldType := fun k => match k with
  | 0 => .object "GrammarLines$Things"
  | 1 => .long
  | _ => .int
theorem n_Phrase : ∀ a, a < 3 → ∀ b, b < 3 → a ≠ b → (F_Phrase a).2.1 ≠ (F_Phrase b).2.1 := by decide +kernel
theorem t_Phrase_ok : ∀ k, k < 3 → parseFieldDescriptor (F_Phrase k).2.2.1 = some (t_Phrase k) := by decide +kernel
def R_Things : String := "GrammarLines$Things"
def F_Things : u_T := fun k => match k with
  | 0 => ("GrammarLines$Things", "flagsOf", "[I", true)
  | 1 => ("GrammarLines$Things", "nameCounts", "[I", true)
  | 2 => ("GrammarLines$Things", "names", "[I", true)
  | 3 => ("GrammarLines$Things", "count", "I", false)
  | 4 => ("GrammarLines$Things", "inScope", "J", false)
  | 5 => ("GrammarLines$Things", "held", "J", false)
  | 6 => ("GrammarLines$Things", "worn", "J", false)
  | _ => ("GrammarLines$Things", "creatures", "J", false)
def t_Things : Nat → FieldType := fun k => match k with
  | 0 => .array .int
  | 1 => .array .int
  | 2 => .array .int
  | 3 => .int
  | 4 => .long
  | 5 => .long
  | 6 => .long
  | _ => .long
theorem n_Things : ∀ a, a < 8 → ∀ b, b < 8 → a ≠ b → (F_Things a).2.1 ≠ (F_Things b).2.1 := by decide +kernel
theorem t_Things_ok : ∀ k, k < 8 → parseFieldDescriptor (F_Things k).2.2.1 = some (t_Things k) := by decide +kernel
def R_Verbs : String := "GrammarLines$Verbs"
def F_Verbs : u_T := fun k => match k with
  | 0 => ("GrammarLines$Verbs", "words", "LGrammarLines$Row;", true)
  | 1 => ("GrammarLines$Verbs", "owners", "LGrammarLines$Row;", true)
  | _ => ("GrammarLines$Verbs", "count", "I", false)
def t_Verbs : Nat → FieldType := fun k => match k with
  | 0 => .object "GrammarLines$Row"
  | 1 => .object "GrammarLines$Row"
  | _ => .int
theorem n_Verbs : ∀ a, a < 3 → ∀ b, b < 3 → a ≠ b → (F_Verbs a).2.1 ≠ (F_Verbs b).2.1 := by decide +kernel
theorem t_Verbs_ok : ∀ k, k < 3 → parseFieldDescriptor (F_Verbs k).2.2.1 = some (t_Verbs k) := by decide +kernel
def R_Lines : String := "GrammarLines$Lines"
def F_Lines : u_T := fun k => match k with
  | 0 => ("GrammarLines$Lines", "verbs", "[I", true)
  | 1 => ("GrammarLines$Lines", "actions", "[I", true)
  | 2 => ("GrammarLines$Lines", "reversals", "[Z", true)
  | 3 => ("GrammarLines$Lines", "kindCounts", "[I", true)
  | 4 => ("GrammarLines$Lines", "kinds", "[I", true)
  | 5 => ("GrammarLines$Lines", "ofs", "[I", true)
  | _ => ("GrammarLines$Lines", "count", "I", false)
def t_Lines : Nat → FieldType := fun k => match k with
  | 0 => .array .int
  | 1 => .array .int
  | 2 => .array .boolean
  | 3 => .array .int
  | 4 => .array .int
  | 5 => .array .int
  | _ => .int
theorem n_Lines : ∀ a, a < 7 → ∀ b, b < 7 → a ≠ b → (F_Lines a).2.1 ≠ (F_Lines b).2.1 := by decide +kernel
theorem t_Lines_ok : ∀ k, k < 7 → parseFieldDescriptor (F_Lines k).2.2.1 = some (t_Lines k) := by decide +kernel
def R_Values : String := "GrammarLines$Values"
def F_Values : u_T := fun k => match k with
  | 0 => ("GrammarLines$Values", "customs", "LGrammarLines$Row;", true)
  | 1 => ("GrammarLines$Values", "words", "LGrammarLines$Row;", true)
  | _ => ("GrammarLines$Values", "values", "LGrammarLines$Row;", true)
def t_Values : Nat → FieldType := fun k => match k with
  | 0 => .object "GrammarLines$Row"
  | 1 => .object "GrammarLines$Row"
  | _ => .object "GrammarLines$Row"
theorem n_Values : ∀ a, a < 3 → ∀ b, b < 3 → a ≠ b → (F_Values a).2.1 ≠ (F_Values b).2.1 := by decide +kernel
theorem t_Values_ok : ∀ k, k < 3 → parseFieldDescriptor (F_Values k).2.2.1 = some (t_Values k) := by decide +kernel
def R_Trial : String := "GrammarLines$Trial"
def F_Trial : u_T := fun k => match k with
  | 0 => ("GrammarLines$Trial", "things", "LGrammarLines$Things;", true)
  | 1 => ("GrammarLines$Trial", "lines", "LGrammarLines$Lines;", true)
  | 2 => ("GrammarLines$Trial", "values", "LGrammarLines$Values;", true)
  | 3 => ("GrammarLines$Trial", "words", "LGrammarLines$Row;", true)
  | 4 => ("GrammarLines$Trial", "phrase", "LGrammarLines$Phrase;", true)
  | 5 => ("GrammarLines$Trial", "first", "LGrammarLines$Slot;", true)
  | 6 => ("GrammarLines$Trial", "second", "LGrammarLines$Slot;", true)
  | 7 => ("GrammarLines$Trial", "filled", "LGrammarLines$Row;", true)
  | 8 => ("GrammarLines$Trial", "question", "LGrammarLines$Row;", true)
  | 9 => ("GrammarLines$Trial", "line", "I", false)
  | 10 => ("GrammarLines$Trial", "cursor", "I", false)
  | 11 => ("GrammarLines$Trial", "error", "I", false)
  | _ => ("GrammarLines$Trial", "place", "I", false)
def t_Trial : Nat → FieldType := fun k => match k with
  | 0 => .object "GrammarLines$Things"
  | 1 => .object "GrammarLines$Lines"
  | 2 => .object "GrammarLines$Values"
  | 3 => .object "GrammarLines$Row"
  | 4 => .object "GrammarLines$Phrase"
  | 5 => .object "GrammarLines$Slot"
  | 6 => .object "GrammarLines$Slot"
  | 7 => .object "GrammarLines$Row"
  | 8 => .object "GrammarLines$Row"
  | 9 => .int
  | 10 => .int
  | 11 => .int
  | _ => .int
theorem n_Trial : ∀ a, a < 13 → ∀ b, b < 13 → a ≠ b → (F_Trial a).2.1 ≠ (F_Trial b).2.1 := by decide +kernel
theorem t_Trial_ok : ∀ k, k < 13 → parseFieldDescriptor (F_Trial k).2.2.1 = some (t_Trial k) := by decide +kernel
def R_Report : String := "GrammarLines$Report"
def F_Report : u_T := fun k => match k with
  | 0 => ("GrammarLines$Report", "triedLines", "LGrammarLines$Row;", true)
  | 1 => ("GrammarLines$Report", "triedErrors", "LGrammarLines$Row;", true)
  | 2 => ("GrammarLines$Report", "triedPlaces", "LGrammarLines$Row;", true)
  | 3 => ("GrammarLines$Report", "question", "LGrammarLines$Row;", true)
  | 4 => ("GrammarLines$Report", "action", "I", false)
  | 5 => ("GrammarLines$Report", "error", "I", false)
  | 6 => ("GrammarLines$Report", "place", "I", false)
  | 7 => ("GrammarLines$Report", "line", "I", false)
  | _ => ("GrammarLines$Report", "phraseEnd", "I", false)
def t_Report : Nat → FieldType := fun k => match k with
  | 0 => .object "GrammarLines$Row"
  | 1 => .object "GrammarLines$Row"
  | 2 => .object "GrammarLines$Row"
  | 3 => .object "GrammarLines$Row"
  | 4 => .int
  | 5 => .int
  | 6 => .int
  | 7 => .int
  | _ => .int
theorem n_Report : ∀ a, a < 9 → ∀ b, b < 9 → a ≠ b → (F_Report a).2.1 ≠ (F_Report b).2.1 := by decide +kernel
theorem t_Report_ok : ∀ k, k < 9 → parseFieldDescriptor (F_Report k).2.2.1 = some (t_Report k) := by decide +kernel
def R_G : String := "GrammarLines"
def F_G : u_T := fun k => match k with
  | 0 => ("GrammarLines", "things", "LGrammarLines$Things;", true)
  | 1 => ("GrammarLines", "verbs", "LGrammarLines$Verbs;", true)
  | 2 => ("GrammarLines", "lines", "LGrammarLines$Lines;", true)
  | 3 => ("GrammarLines", "values", "LGrammarLines$Values;", true)
  | 4 => ("GrammarLines", "input", "LGrammarLines$Row;", true)
  | 5 => ("GrammarLines", "command", "LGrammarLines$Row;", true)
  | 6 => ("GrammarLines", "taken", "LGrammarLines$Row;", true)
  | 7 => ("GrammarLines", "done", "LGrammarLines$Row;", true)
  | 8 => ("GrammarLines", "addressee", "LGrammarLines$Phrase;", true)
  | 9 => ("GrammarLines", "trial", "LGrammarLines$Trial;", true)
  | 10 => ("GrammarLines", "report", "LGrammarLines$Report;", true)
  | 11 => ("GrammarLines", "recipient", "I", false)
  | _ => ("GrammarLines", "doneTo", "I", false)
def t_G : Nat → FieldType := fun k => match k with
  | 0 => .object "GrammarLines$Things"
  | 1 => .object "GrammarLines$Verbs"
  | 2 => .object "GrammarLines$Lines"
  | 3 => .object "GrammarLines$Values"
  | 4 => .object "GrammarLines$Row"
  | 5 => .object "GrammarLines$Row"
  | 6 => .object "GrammarLines$Row"
  | 7 => .object "GrammarLines$Row"
  | 8 => .object "GrammarLines$Phrase"
  | 9 => .object "GrammarLines$Trial"
  | 10 => .object "GrammarLines$Report"
  | 11 => .int
  | _ => .int
theorem n_G : ∀ a, a < 13 → ∀ b, b < 13 → a ≠ b → (F_G a).2.1 ≠ (F_G b).2.1 := by decide +kernel
theorem t_G_ok : ∀ k, k < 13 → parseFieldDescriptor (F_G k).2.2.1 = some (t_G k) := by decide +kernel
def R_M : String := "GrammarLinesModel"
def F_M : u_T := fun k => match k with
  | 0 => ("GrammarLinesModel", "verbs", "I", false)
  | 1 => ("GrammarLinesModel", "verbWords", "I", false)
  | 2 => ("GrammarLinesModel", "verbWord", "[I", true)
  | 3 => ("GrammarLinesModel", "verbOf", "[I", true)
  | 4 => ("GrammarLinesModel", "lines", "I", false)
  | 5 => ("GrammarLinesModel", "lineVerb", "[I", true)
  | 6 => ("GrammarLinesModel", "lineAction", "[I", true)
  | 7 => ("GrammarLinesModel", "isReversed", "[Z", true)
  | 8 => ("GrammarLinesModel", "tokenMany", "[I", true)
  | 9 => ("GrammarLinesModel", "tokenKind", "[I", true)
  | 10 => ("GrammarLinesModel", "tokenOf", "[I", true)
  | 11 => ("GrammarLinesModel", "things", "I", false)
  | 12 => ("GrammarLinesModel", "flagOf", "[I", true)
  | 13 => ("GrammarLinesModel", "nameMany", "[I", true)
  | 14 => ("GrammarLinesModel", "nameOf", "[I", true)
  | 15 => ("GrammarLinesModel", "pairs", "I", false)
  | 16 => ("GrammarLinesModel", "pairNumber", "[I", true)
  | 17 => ("GrammarLinesModel", "pairWord", "[I", true)
  | 18 => ("GrammarLinesModel", "pairValue", "[I", true)
  | 19 => ("GrammarLinesModel", "inputMany", "I", false)
  | 20 => ("GrammarLinesModel", "input", "[I", true)
  | 21 => ("GrammarLinesModel", "row", "[I", true)
  | 22 => ("GrammarLinesModel", "rowMany", "I", false)
  | 23 => ("GrammarLinesModel", "phraseThings", "J", false)
  | 24 => ("GrammarLinesModel", "error", "I", false)
  | 25 => ("GrammarLinesModel", "place", "I", false)
  | 26 => ("GrammarLinesModel", "which", "J", false)
  | 27 => ("GrammarLinesModel", "phraseEnd", "I", false)
  | 28 => ("GrammarLinesModel", "lacks", "I", false)
  | 29 => ("GrammarLinesModel", "toldMany", "I", false)
  | 30 => ("GrammarLinesModel", "toldWords", "[I", true)
  | 31 => ("GrammarLinesModel", "fills", "I", false)
  | 32 => ("GrammarLinesModel", "filledOnes", "[I", true)
  | 33 => ("GrammarLinesModel", "slotMany", "I", false)
  | 34 => ("GrammarLinesModel", "slotKind", "[I", true)
  | 35 => ("GrammarLinesModel", "slotAt", "[I", true)
  | 36 => ("GrammarLinesModel", "slotThings", "[J", true)
  | 37 => ("GrammarLinesModel", "slotFrom", "[I", true)
  | 38 => ("GrammarLinesModel", "slotTo", "[I", true)
  | 39 => ("GrammarLinesModel", "slotNumber", "[I", true)
  | 40 => ("GrammarLinesModel", "commandMany", "I", false)
  | 41 => ("GrammarLinesModel", "command", "[I", true)
  | 42 => ("GrammarLinesModel", "toWhom", "I", false)
  | 43 => ("GrammarLinesModel", "tried", "I", false)
  | 44 => ("GrammarLinesModel", "triedLine", "[I", true)
  | 45 => ("GrammarLinesModel", "triedError", "[I", true)
  | 46 => ("GrammarLinesModel", "triedPlace", "[I", true)
  | 47 => ("GrammarLinesModel", "isAnswered", "Z", false)
  | 48 => ("GrammarLinesModel", "lastError", "I", false)
  | 49 => ("GrammarLinesModel", "errorPlace", "I", false)
  | 50 => ("GrammarLinesModel", "errorLine", "I", false)
  | 51 => ("GrammarLinesModel", "askedKind", "I", false)
  | 52 => ("GrammarLinesModel", "hasAction", "Z", false)
  | 53 => ("GrammarLinesModel", "againMany", "I", false)
  | 54 => ("GrammarLinesModel", "again", "[I", true)
  | _ => ("GrammarLinesModel", "againTo", "I", false)
def t_M : Nat → FieldType := fun k => match k with
  | 0 => .int
  | 1 => .int
  | 2 => .array .int
  | 3 => .array .int
  | 4 => .int
  | 5 => .array .int
  | 6 => .array .int
  | 7 => .array .boolean
  | 8 => .array .int
  | 9 => .array .int
  | 10 => .array .int
  | 11 => .int
  | 12 => .array .int
  | 13 => .array .int
  | 14 => .array .int
  | 15 => .int
  | 16 => .array .int
  | 17 => .array .int
  | 18 => .array .int
  | 19 => .int
  | 20 => .array .int
  | 21 => .array .int
  | 22 => .int
  | 23 => .long
  | 24 => .int
  | 25 => .int
  | 26 => .long
  | 27 => .int
  | 28 => .int
  | 29 => .int
  | 30 => .array .int
  | 31 => .int
  | 32 => .array .int
  | 33 => .int
  | 34 => .array .int
  | 35 => .array .int
  | 36 => .array (.long)
  | 37 => .array .int
  | 38 => .array .int
  | 39 => .array .int
  | 40 => .int
  | 41 => .array .int
  | 42 => .int
  | 43 => .int
  | 44 => .array .int
  | 45 => .array .int
  | 46 => .array .int
  | 47 => .boolean
  | 48 => .int
  | 49 => .int
  | 50 => .int
  | 51 => .int
  | 52 => .boolean
  | 53 => .int
  | 54 => .array .int
  | _ => .int
theorem n_M : ∀ a, a < 56 → ∀ b, b < 56 → a ≠ b → (F_M a).2.1 ≠ (F_M b).2.1 := by decide +kernel
theorem t_M_ok : ∀ k, k < 56 → parseFieldDescriptor (F_M k).2.2.1 = some (t_M k) := by decide +kernel
def R_JLong : String := "java/lang/Long"
def R_JMath : String := "java/lang/Math"
def R_L : String := "GrammarLinesLaw"
abbrev classes : List vw_C := [(R_Row, F_Row, 2), (R_Slot, F_Slot, 4), (R_Phrase, F_Phrase, 3), (R_Things, F_Things, 8), (R_Verbs, F_Verbs, 3), (R_Lines, F_Lines, 7), (R_Values, F_Values, 3), (R_Trial, F_Trial, 13), (R_Report, F_Report, 9), (R_G, F_G, 13), (R_M, F_M, 56)]
abbrev b_G_isPlainWord : ByteArray := prog_1_method_20_code
def y_G_isPlainWord : MethodName := ⟨R_G, "isPlainWord", "(I)Z"⟩
abbrev b_Row_size : ByteArray := prog_5_method_2_code
def y_Row_size : MethodName := ⟨R_Row, "size", "()I"⟩
abbrev b_Row_at : ByteArray := prog_5_method_3_code
def y_Row_at : MethodName := ⟨R_Row, "at", "(I)I"⟩
abbrev b_Verbs_find : ByteArray := prog_10_method_8_code
def y_Verbs_find : MethodName := ⟨R_Verbs, "find", "(I)I"⟩
abbrev b_G_mayBeVerbWord : ByteArray := prog_1_method_27_code
def y_G_mayBeVerbWord : MethodName := ⟨R_G, "mayBeVerbWord", "(I)Z"⟩
abbrev b_Verbs_isFull : ByteArray := prog_10_method_4_code
def y_Verbs_isFull : MethodName := ⟨R_Verbs, "isFull", "()Z"⟩
abbrev b_Verbs_hasAllWords : ByteArray := prog_10_method_5_code
def y_Verbs_hasAllWords : MethodName := ⟨R_Verbs, "hasAllWords", "()Z"⟩
abbrev b_Row_add : ByteArray := prog_5_method_4_code
def y_Row_add : MethodName := ⟨R_Row, "add", "(I)V"⟩
abbrev b_Verbs_addWord : ByteArray := prog_10_method_7_code
def y_Verbs_addWord : MethodName := ⟨R_Verbs, "addWord", "(II)I"⟩
abbrev b_Verbs_add : ByteArray := prog_10_method_6_code
def y_Verbs_add : MethodName := ⟨R_Verbs, "add", "(I)I"⟩
abbrev b_G_verb : ByteArray := prog_1_method_2_code
def y_G_verb : MethodName := ⟨R_G, "verb", "(I)I"⟩
abbrev b_Verbs_has : ByteArray := prog_10_method_3_code
def y_Verbs_has : MethodName := ⟨R_Verbs, "has", "(I)Z"⟩
abbrev b_G_like : ByteArray := prog_1_method_3_code
def y_G_like : MethodName := ⟨R_G, "like", "(II)I"⟩
abbrev b_Lines_isFull : ByteArray := prog_2_method_4_code
def y_Lines_isFull : MethodName := ⟨R_Lines, "isFull", "()Z"⟩
abbrev b_Lines_add : ByteArray := prog_2_method_5_code
def y_Lines_add : MethodName := ⟨R_Lines, "add", "(IIZ)I"⟩
abbrev b_G_line : ByteArray := prog_1_method_4_code
def y_G_line : MethodName := ⟨R_G, "line", "(IIZ)I"⟩
abbrev b_Lines_has : ByteArray := prog_2_method_3_code
def y_Lines_has : MethodName := ⟨R_Lines, "has", "(I)Z"⟩
abbrev b_G_mayBeToken : ByteArray := prog_1_method_26_code
def y_G_mayBeToken : MethodName := ⟨R_G, "mayBeToken", "(II)Z"⟩
abbrev b_Lines_kindsOf : ByteArray := prog_2_method_9_code
def y_Lines_kindsOf : MethodName := ⟨R_Lines, "kindsOf", "(I)I"⟩
abbrev b_Lines_kindAt : ByteArray := prog_2_method_10_code
def y_Lines_kindAt : MethodName := ⟨R_Lines, "kindAt", "(II)I"⟩
abbrev b_G_isSlot : ByteArray := prog_1_method_23_code
def y_G_isSlot : MethodName := ⟨R_G, "isSlot", "(I)Z"⟩
abbrev b_Lines_slotsOf : ByteArray := prog_2_method_13_code
def y_Lines_slotsOf : MethodName := ⟨R_Lines, "slotsOf", "(I)I"⟩
abbrev b_Lines_allows : ByteArray := prog_2_method_12_code
def y_Lines_allows : MethodName := ⟨R_Lines, "allows", "(II)Z"⟩
abbrev b_Lines_addKind : ByteArray := prog_2_method_14_code
def y_Lines_addKind : MethodName := ⟨R_Lines, "addKind", "(III)I"⟩
abbrev b_G_token : ByteArray := prog_1_method_5_code
def y_G_token : MethodName := ⟨R_G, "token", "(III)I"⟩
abbrev b_G_mayBeFlags : ByteArray := prog_1_method_25_code
def y_G_mayBeFlags : MethodName := ⟨R_G, "mayBeFlags", "(I)Z"⟩
abbrev b_Things_isFull : ByteArray := prog_7_method_4_code
def y_Things_isFull : MethodName := ⟨R_Things, "isFull", "()Z"⟩
abbrev b_Things_has : ByteArray := prog_7_method_3_code
def y_Things_has : MethodName := ⟨R_Things, "has", "(I)Z"⟩
abbrev b_Things_withAnyOf : ByteArray := prog_7_method_7_code
def y_Things_withAnyOf : MethodName := ⟨R_Things, "withAnyOf", "(I)J"⟩
abbrev b_Things_changeFlags : ByteArray := prog_7_method_6_code
def y_Things_changeFlags : MethodName := ⟨R_Things, "changeFlags", "(II)I"⟩
abbrev b_Things_add : ByteArray := prog_7_method_5_code
def y_Things_add : MethodName := ⟨R_Things, "add", "(I)I"⟩
abbrev b_G_thing : ByteArray := prog_1_method_6_code
def y_G_thing : MethodName := ⟨R_G, "thing", "(I)I"⟩
abbrev b_Things_isNamed : ByteArray := prog_7_method_9_code
def y_Things_isNamed : MethodName := ⟨R_Things, "isNamed", "(II)Z"⟩
abbrev b_Things_namesOf : ByteArray := prog_7_method_8_code
def y_Things_namesOf : MethodName := ⟨R_Things, "namesOf", "(I)I"⟩
abbrev b_Things_addName : ByteArray := prog_7_method_10_code
def y_Things_addName : MethodName := ⟨R_Things, "addName", "(II)I"⟩
abbrev b_G_name : ByteArray := prog_1_method_7_code
def y_G_name : MethodName := ⟨R_G, "name", "(II)I"⟩
abbrev b_G_flags : ByteArray := prog_1_method_8_code
def y_G_flags : MethodName := ⟨R_G, "flags", "(II)I"⟩
abbrev b_Values_indexOf : ByteArray := prog_9_method_3_code
def y_Values_indexOf : MethodName := ⟨R_Values, "indexOf", "(II)I"⟩
abbrev b_Values_find : ByteArray := prog_9_method_4_code
def y_Values_find : MethodName := ⟨R_Values, "find", "(II)I"⟩
abbrev b_Row_put : ByteArray := prog_5_method_5_code
def y_Row_put : MethodName := ⟨R_Row, "put", "(II)V"⟩
abbrev b_Values_count : ByteArray := prog_9_method_2_code
def y_Values_count : MethodName := ⟨R_Values, "count", "()I"⟩
abbrev b_Values_put : ByteArray := prog_9_method_5_code
def y_Values_put : MethodName := ⟨R_Values, "put", "(III)I"⟩
abbrev b_G_custom : ByteArray := prog_1_method_9_code
def y_G_custom : MethodName := ⟨R_G, "custom", "(III)I"⟩
abbrev b_G_isWord : ByteArray := prog_1_method_21_code
def y_G_isWord : MethodName := ⟨R_G, "isWord", "(I)Z"⟩
abbrev b_G_word : ByteArray := prog_1_method_10_code
def y_G_word : MethodName := ⟨R_G, "word", "(I)I"⟩
abbrev b_Row_empty : ByteArray := prog_5_method_8_code
def y_Row_empty : MethodName := ⟨R_Row, "empty", "()V"⟩
abbrev b_G_clear : ByteArray := prog_1_method_11_code
def y_G_clear : MethodName := ⟨R_G, "clear", "()I"⟩
abbrev b_Things_namedOf : ByteArray := prog_7_method_11_code
def y_Things_namedOf : MethodName := ⟨R_Things, "namedOf", "(JI)J"⟩
abbrev b_Phrase_find : ByteArray := prog_3_method_2_code
def y_Phrase_find : MethodName := ⟨R_Phrase, "find", "(LGrammarLines$Row;I)Z"⟩
abbrev b_JLong_bitCount : ByteArray := prog_13_method_50_code
def y_JLong_bitCount : MethodName := ⟨R_JLong, "bitCount", "(J)I"⟩
abbrev b_Row_dropFirst : ByteArray := prog_5_method_7_code
def y_Row_dropFirst : MethodName := ⟨R_Row, "dropFirst", "(I)V"⟩
abbrev b_Things_firstOf : ByteArray := prog_7_method_15_code
def y_Things_firstOf : MethodName := ⟨R_Things, "firstOf", "(J)I"⟩
abbrev b_G_takeOrder : ByteArray := prog_1_method_28_code
def y_G_takeOrder : MethodName := ⟨R_G, "takeOrder", "()I"⟩
abbrev b_G_isJoin : ByteArray := prog_1_method_22_code
def y_G_isJoin : MethodName := ⟨R_G, "isJoin", "(I)Z"⟩
abbrev b_G_endsCommand : ByteArray := prog_1_method_30_code
def y_G_endsCommand : MethodName := ⟨R_G, "endsCommand", "(I)Z"⟩
abbrev b_G_takeCommand : ByteArray := prog_1_method_29_code
def y_G_takeCommand : MethodName := ⟨R_G, "takeCommand", "()V"⟩
abbrev b_Row_become : ByteArray := prog_5_method_9_code
def y_Row_become : MethodName := ⟨R_Row, "become", "(LGrammarLines$Row;)V"⟩
abbrev b_G_chooseCommand : ByteArray := prog_1_method_31_code
def y_G_chooseCommand : MethodName := ⟨R_G, "chooseCommand", "(I)I"⟩
abbrev b_Report_begin : ByteArray := prog_4_method_2_code
def y_Report_begin : MethodName := ⟨R_Report, "begin", "()V"⟩
abbrev b_Report_fail : ByteArray := prog_4_method_4_code
def y_Report_fail : MethodName := ⟨R_Report, "fail", "(III)V"⟩
abbrev b_Lines_count : ByteArray := prog_2_method_2_code
def y_Lines_count : MethodName := ⟨R_Lines, "count", "()I"⟩
abbrev b_Report_isAsked : ByteArray := prog_4_method_3_code
def y_Report_isAsked : MethodName := ⟨R_Report, "isAsked", "()Z"⟩
abbrev b_Lines_verbOf : ByteArray := prog_2_method_6_code
def y_Lines_verbOf : MethodName := ⟨R_Lines, "verbOf", "(I)I"⟩
abbrev b_Slot_empty : ByteArray := prog_6_method_2_code
def y_Slot_empty : MethodName := ⟨R_Slot, "empty", "()V"⟩
abbrev b_Trial_begin : ByteArray := prog_8_method_4_code
def y_Trial_begin : MethodName := ⟨R_Trial, "begin", "(I)V"⟩
abbrev b_G_isOfOneThing : ByteArray := prog_1_method_24_code
def y_G_isOfOneThing : MethodName := ⟨R_G, "isOfOneThing", "(I)Z"⟩
abbrev b_Trial_fail : ByteArray := prog_8_method_5_code
def y_Trial_fail : MethodName := ⟨R_Trial, "fail", "(II)V"⟩
abbrev b_Trial_takeOut : ByteArray := prog_8_method_18_code
def y_Trial_takeOut : MethodName := ⟨R_Trial, "takeOut", "(LGrammarLines$Slot;LGrammarLines$Slot;)V"⟩
abbrev b_Row_addThings : ByteArray := prog_5_method_10_code
def y_Row_addThings : MethodName := ⟨R_Row, "addThings", "(J)V"⟩
abbrev b_Trial_finish : ByteArray := prog_8_method_17_code
def y_Trial_finish : MethodName := ⟨R_Trial, "finish", "()V"⟩
abbrev b_Trial_openSlot : ByteArray := prog_8_method_6_code
def y_Trial_openSlot : MethodName := ⟨R_Trial, "openSlot", "(I)LGrammarLines$Slot;"⟩
abbrev b_Things_countedFor : ByteArray := prog_7_method_12_code
def y_Things_countedFor : MethodName := ⟨R_Things, "countedFor", "(I)J"⟩
abbrev b_Trial_findOne : ByteArray := prog_8_method_12_code
def y_Trial_findOne : MethodName := ⟨R_Trial, "findOne", "(I)J"⟩
abbrev b_Trial_takeList : ByteArray := prog_8_method_14_code
def y_Trial_takeList : MethodName := ⟨R_Trial, "takeList", "(I)V"⟩
abbrev b_Things_allFor : ByteArray := prog_7_method_14_code
def y_Things_allFor : MethodName := ⟨R_Things, "allFor", "(I)J"⟩
abbrev b_Trial_takeAll : ByteArray := prog_8_method_13_code
def y_Trial_takeAll : MethodName := ⟨R_Trial, "takeAll", "(I)V"⟩
abbrev b_Trial_takeOne : ByteArray := prog_8_method_11_code
def y_Trial_takeOne : MethodName := ⟨R_Trial, "takeOne", "(I)V"⟩
abbrev b_Lines_ofAt : ByteArray := prog_2_method_11_code
def y_Lines_ofAt : MethodName := ⟨R_Lines, "ofAt", "(II)I"⟩
abbrev b_Trial_takeCustom : ByteArray := prog_8_method_10_code
def y_Trial_takeCustom : MethodName := ⟨R_Trial, "takeCustom", "(I)V"⟩
abbrev b_Trial_takeNumber : ByteArray := prog_8_method_9_code
def y_Trial_takeNumber : MethodName := ⟨R_Trial, "takeNumber", "()V"⟩
abbrev b_Lines_takes : ByteArray := prog_2_method_16_code
def y_Lines_takes : MethodName := ⟨R_Lines, "takes", "(III)Z"⟩
abbrev b_Trial_takeTopic : ByteArray := prog_8_method_8_code
def y_Trial_takeTopic : MethodName := ⟨R_Trial, "takeTopic", "(I)V"⟩
abbrev b_Trial_takeWord : ByteArray := prog_8_method_7_code
def y_Trial_takeWord : MethodName := ⟨R_Trial, "takeWord", "(I)V"⟩
abbrev b_Lines_slotFrom : ByteArray := prog_2_method_15_code
def y_Lines_slotFrom : MethodName := ⟨R_Lines, "slotFrom", "(II)I"⟩
abbrev b_Things_fillersFor : ByteArray := prog_7_method_13_code
def y_Things_fillersFor : MethodName := ⟨R_Things, "fillersFor", "(I)J"⟩
abbrev b_Trial_fillFrom : ByteArray := prog_8_method_16_code
def y_Trial_fillFrom : MethodName := ⟨R_Trial, "fillFrom", "(I)Z"⟩
abbrev b_Trial_fillOrAsk : ByteArray := prog_8_method_15_code
def y_Trial_fillOrAsk : MethodName := ⟨R_Trial, "fillOrAsk", "(I)V"⟩
abbrev b_Trial_tryLine : ByteArray := prog_8_method_3_code
def y_Trial_tryLine : MethodName := ⟨R_Trial, "tryLine", "(I)V"⟩
abbrev b_Lines_actionOf : ByteArray := prog_2_method_7_code
def y_Lines_actionOf : MethodName := ⟨R_Lines, "actionOf", "(I)I"⟩
abbrev b_Report_note : ByteArray := prog_4_method_5_code
def y_Report_note : MethodName := ⟨R_Report, "note", "(LGrammarLines$Trial;I)V"⟩
abbrev b_G_tryCommand : ByteArray := prog_1_method_32_code
def y_G_tryCommand : MethodName := ⟨R_G, "tryCommand", "()I"⟩
abbrev b_G_parse : ByteArray := prog_1_method_12_code
def y_G_parse : MethodName := ⟨R_G, "parse", "()I"⟩
abbrev b_Row_insert : ByteArray := prog_5_method_6_code
def y_Row_insert : MethodName := ⟨R_Row, "insert", "(II)V"⟩
abbrev b_G_answer : ByteArray := prog_1_method_13_code
def y_G_answer : MethodName := ⟨R_G, "answer", "(I)I"⟩
abbrev b_Lines_isReversed : ByteArray := prog_2_method_8_code
def y_Lines_isReversed : MethodName := ⟨R_Lines, "isReversed", "(I)Z"⟩
abbrev b_Trial_slotsTaken : ByteArray := prog_8_method_2_code
def y_Trial_slotsTaken : MethodName := ⟨R_Trial, "slotsTaken", "()I"⟩
abbrev b_G_object : ByteArray := prog_1_method_14_code
def y_G_object : MethodName := ⟨R_G, "object", "(II)I"⟩
abbrev b_G_asked : ByteArray := prog_1_method_15_code
def y_G_asked : MethodName := ⟨R_G, "asked", "(I)I"⟩
abbrev b_G_filled : ByteArray := prog_1_method_16_code
def y_G_filled : MethodName := ⟨R_G, "filled", "(I)I"⟩
abbrev b_Verbs_count : ByteArray := prog_10_method_2_code
def y_Verbs_count : MethodName := ⟨R_Verbs, "count", "()I"⟩
abbrev b_Things_count : ByteArray := prog_7_method_2_code
def y_Things_count : MethodName := ⟨R_Things, "count", "()I"⟩
abbrev b_G_told : ByteArray := prog_1_method_17_code
def y_G_told : MethodName := ⟨R_G, "told", "(I)I"⟩
abbrev b_G_trace : ByteArray := prog_1_method_18_code
def y_G_trace : MethodName := ⟨R_G, "trace", "(II)I"⟩
abbrev b_G_said : ByteArray := prog_1_method_19_code
def y_G_said : MethodName := ⟨R_G, "said", "(II)I"⟩
abbrev b_M_within : ByteArray := prog_12_method_3_code
def y_M_within : MethodName := ⟨R_M, "within", "(III)Z"⟩
abbrev b_M_isPlain : ByteArray := prog_12_method_4_code
def y_M_isPlain : MethodName := ⟨R_M, "isPlain", "(I)Z"⟩
abbrev b_M_verbBy : ByteArray := prog_12_method_6_code
def y_M_verbBy : MethodName := ⟨R_M, "verbBy", "(I)I"⟩
abbrev b_M_isOfVerb : ByteArray := prog_12_method_7_code
def y_M_isOfVerb : MethodName := ⟨R_M, "isOfVerb", "(II)V"⟩
abbrev b_M_verb : ByteArray := prog_12_method_8_code
def y_M_verb : MethodName := ⟨R_M, "verb", "(I)I"⟩
abbrev b_M_like : ByteArray := prog_12_method_9_code
def y_M_like : MethodName := ⟨R_M, "like", "(II)I"⟩
abbrev b_M_line : ByteArray := prog_12_method_10_code
def y_M_line : MethodName := ⟨R_M, "line", "(IIZ)I"⟩
abbrev b_M_isSlot : ByteArray := prog_12_method_11_code
def y_M_isSlot : MethodName := ⟨R_M, "isSlot", "(I)Z"⟩
abbrev b_M_token : ByteArray := prog_12_method_12_code
def y_M_token : MethodName := ⟨R_M, "token", "(III)I"⟩
abbrev b_M_thing : ByteArray := prog_12_method_13_code
def y_M_thing : MethodName := ⟨R_M, "thing", "(I)I"⟩
abbrev b_M_hasName : ByteArray := prog_12_method_14_code
def y_M_hasName : MethodName := ⟨R_M, "hasName", "(II)Z"⟩
abbrev b_M_name : ByteArray := prog_12_method_15_code
def y_M_name : MethodName := ⟨R_M, "name", "(II)I"⟩
abbrev b_M_flags : ByteArray := prog_12_method_16_code
def y_M_flags : MethodName := ⟨R_M, "flags", "(II)I"⟩
abbrev b_M_pairOf : ByteArray := prog_12_method_17_code
def y_M_pairOf : MethodName := ⟨R_M, "pairOf", "(II)I"⟩
abbrev b_M_custom : ByteArray := prog_12_method_18_code
def y_M_custom : MethodName := ⟨R_M, "custom", "(III)I"⟩
abbrev b_M_isAny : ByteArray := prog_12_method_5_code
def y_M_isAny : MethodName := ⟨R_M, "isAny", "(I)Z"⟩
abbrev b_M_word : ByteArray := prog_12_method_19_code
def y_M_word : MethodName := ⟨R_M, "word", "(I)I"⟩
abbrev b_M_clear : ByteArray := prog_12_method_20_code
def y_M_clear : MethodName := ⟨R_M, "clear", "()I"⟩
abbrev b_M_take : ByteArray := prog_12_method_28_code
def y_M_take : MethodName := ⟨R_M, "take", "([II)V"⟩
abbrev b_M_isHeld : ByteArray := prog_12_method_21_code
def y_M_isHeld : MethodName := ⟨R_M, "isHeld", "(I)Z"⟩
abbrev b_M_isInScope : ByteArray := prog_12_method_24_code
def y_M_isInScope : MethodName := ⟨R_M, "isInScope", "(I)Z"⟩
abbrev b_M_phrase : ByteArray := prog_12_method_29_code
def y_M_phrase : MethodName := ⟨R_M, "phrase", "(I)I"⟩
abbrev b_M_has : ByteArray := prog_12_method_25_code
def y_M_has : MethodName := ⟨R_M, "has", "(JI)Z"⟩
abbrev b_M_manyOf : ByteArray := prog_12_method_26_code
def y_M_manyOf : MethodName := ⟨R_M, "manyOf", "(J)I"⟩
abbrev b_M_thingOf : ByteArray := prog_12_method_27_code
def y_M_thingOf : MethodName := ⟨R_M, "thingOf", "(JI)I"⟩
abbrev b_M_isCreature : ByteArray := prog_12_method_23_code
def y_M_isCreature : MethodName := ⟨R_M, "isCreature", "(I)Z"⟩
abbrev b_M_stands : ByteArray := prog_12_method_30_code
def y_M_stands : MethodName := ⟨R_M, "stands", "(II)Z"⟩
abbrev b_M_off : ByteArray := prog_12_method_49_code
def y_M_off : MethodName := ⟨R_M, "off", "(I)V"⟩
abbrev b_M_order : ByteArray := prog_12_method_50_code
def y_M_order : MethodName := ⟨R_M, "order", "()V"⟩
abbrev b_M_begins : ByteArray := prog_12_method_48_code
def y_M_begins : MethodName := ⟨R_M, "begins", "()V"⟩
abbrev b_M_fails : ByteArray := prog_12_method_32_code
def y_M_fails : MethodName := ⟨R_M, "fails", "(II)V"⟩
abbrev b_M_others : ByteArray := prog_12_method_45_code
def y_M_others : MethodName := ⟨R_M, "others", "()V"⟩
abbrev b_M_slot : ByteArray := prog_12_method_33_code
def y_M_slot : MethodName := ⟨R_M, "slot", "(II)V"⟩
abbrev b_M_next : ByteArray := prog_12_method_34_code
def y_M_next : MethodName := ⟨R_M, "next", "(II)I"⟩
abbrev b_M_isOneOf : ByteArray := prog_12_method_35_code
def y_M_isOneOf : MethodName := ⟨R_M, "isOneOf", "(III)Z"⟩
abbrev b_M_takesTopic : ByteArray := prog_12_method_41_code
def y_M_takesTopic : MethodName := ⟨R_M, "takesTopic", "(III)I"⟩
abbrev b_M_isWorn : ByteArray := prog_12_method_22_code
def y_M_isWorn : MethodName := ⟨R_M, "isWorn", "(I)Z"⟩
abbrev b_M_takesOne : ByteArray := prog_12_method_38_code
def y_M_takesOne : MethodName := ⟨R_M, "takesOne", "(II)I"⟩
abbrev b_M_joins : ByteArray := prog_12_method_31_code
def y_M_joins : MethodName := ⟨R_M, "joins", "(I)Z"⟩
abbrev b_M_lacksOne : ByteArray := prog_12_method_40_code
def y_M_lacksOne : MethodName := ⟨R_M, "lacksOne", "(I)I"⟩
abbrev b_M_takesSeveral : ByteArray := prog_12_method_39_code
def y_M_takesSeveral : MethodName := ⟨R_M, "takesSeveral", "(II)I"⟩
abbrev b_M_takes : ByteArray := prog_12_method_37_code
def y_M_takes : MethodName := ⟨R_M, "takes", "(III)I"⟩
abbrev b_M_goesWith : ByteArray := prog_12_method_42_code
def y_M_goesWith : MethodName := ⟨R_M, "goesWith", "(II)Z"⟩
abbrev b_M_isFilled : ByteArray := prog_12_method_44_code
def y_M_isFilled : MethodName := ⟨R_M, "isFilled", "(II)Z"⟩
abbrev b_M_ends : ByteArray := prog_12_method_43_code
def y_M_ends : MethodName := ⟨R_M, "ends", "(II)V"⟩
abbrev b_M_tries : ByteArray := prog_12_method_36_code
def y_M_tries : MethodName := ⟨R_M, "tries", "(I)V"⟩
abbrev b_M_without : ByteArray := prog_12_method_46_code
def y_M_without : MethodName := ⟨R_M, "without", "(I)I"⟩
abbrev b_M_isTried : ByteArray := prog_12_method_47_code
def y_M_isTried : MethodName := ⟨R_M, "isTried", "()I"⟩
abbrev b_M_parse : ByteArray := prog_12_method_51_code
def y_M_parse : MethodName := ⟨R_M, "parse", "()I"⟩
abbrev b_M_comesIn : ByteArray := prog_12_method_52_code
def y_M_comesIn : MethodName := ⟨R_M, "comesIn", "(II)V"⟩
abbrev b_M_answer : ByteArray := prog_12_method_53_code
def y_M_answer : MethodName := ⟨R_M, "answer", "(I)I"⟩
abbrev b_M_object : ByteArray := prog_12_method_54_code
def y_M_object : MethodName := ⟨R_M, "object", "(II)I"⟩
abbrev b_M_asked : ByteArray := prog_12_method_55_code
def y_M_asked : MethodName := ⟨R_M, "asked", "(I)I"⟩
abbrev b_M_filled : ByteArray := prog_12_method_56_code
def y_M_filled : MethodName := ⟨R_M, "filled", "(I)I"⟩
abbrev b_M_told : ByteArray := prog_12_method_57_code
def y_M_told : MethodName := ⟨R_M, "told", "(I)I"⟩
abbrev b_M_trace : ByteArray := prog_12_method_58_code
def y_M_trace : MethodName := ⟨R_M, "trace", "(II)I"⟩
abbrev b_M_said : ByteArray := prog_12_method_59_code
def y_M_said : MethodName := ⟨R_M, "said", "(II)I"⟩
abbrev b_Row_init : ByteArray := prog_5_method_1_code
def y_Row_init : MethodName := ⟨R_Row, "<init>", "(I)V"⟩
abbrev b_Slot_init : ByteArray := prog_6_method_1_code
def y_Slot_init : MethodName := ⟨R_Slot, "<init>", "()V"⟩
abbrev b_Phrase_init : ByteArray := prog_3_method_1_code
def y_Phrase_init : MethodName := ⟨R_Phrase, "<init>", "(LGrammarLines$Things;)V"⟩
abbrev b_Things_init : ByteArray := prog_7_method_1_code
def y_Things_init : MethodName := ⟨R_Things, "<init>", "()V"⟩
abbrev b_Verbs_init : ByteArray := prog_10_method_1_code
def y_Verbs_init : MethodName := ⟨R_Verbs, "<init>", "()V"⟩
abbrev b_Lines_init : ByteArray := prog_2_method_1_code
def y_Lines_init : MethodName := ⟨R_Lines, "<init>", "()V"⟩
abbrev b_Values_init : ByteArray := prog_9_method_1_code
def y_Values_init : MethodName := ⟨R_Values, "<init>", "()V"⟩
abbrev b_Trial_init : ByteArray := prog_8_method_1_code
def y_Trial_init : MethodName := ⟨R_Trial, "<init>", "(LGrammarLines$Things;LGrammarLines$Lines;LGrammarLines$Values;LGrammarLines$Row;)V"⟩
abbrev b_Report_init : ByteArray := prog_4_method_1_code
def y_Report_init : MethodName := ⟨R_Report, "<init>", "()V"⟩
abbrev b_G_init : ByteArray := prog_1_method_1_code
def y_G_init : MethodName := ⟨R_G, "<init>", "()V"⟩
abbrev b_M_init : ByteArray := prog_12_method_1_code
def y_M_init : MethodName := ⟨R_M, "<init>", "()V"⟩
abbrev b_L_law : ByteArray := code
end
section
abbrev St : Type := (Nat → Int32) × (Nat → Int64) × (Nat → Nat → Int32) × (Nat → Nat → Int64)
def gI (S : St) (k : Nat) : Int32 := S.1 k
def gL (S : St) (k : Nat) : Int64 := S.2.1 k
def gA (S : St) (k i : Nat) : Int32 := S.2.2.1 k i
def gB (S : St) (k i : Nat) : Int64 := S.2.2.2 k i
def sI (S : St) (k : Nat) (v : Int32) : St := (upd S.1 k v, S.2)
def sL (S : St) (k : Nat) (v : Int64) : St := (S.1, vp_updL S.2.1 k v, S.2.2)
def sA (S : St) (k i : Nat) (v : Int32) : St := (S.1, S.2.1, (fun j => if j = k then upd (S.2.2.1 k) i v else S.2.2.1 j), S.2.2.2)
def sB (S : St) (k i : Nat) (v : Int64) : St := (S.1, S.2.1, S.2.2.1, fun j => if j = k then vp_updL (S.2.2.2 k) i v else S.2.2.2 j)
/-! guards, ifs, binds of the functions that say what a method does -/
def gd {α : Type} (b : Bool) (a : Option α) : Option α := if b = true then a else none
theorem gd_some {α : Type} {b : Bool} {a : Option α} {z : α} (h : gd b a = some z) : b = true ∧ a = some z := by
  unfold gd at h
  by_cases hb : b = true
  · rw [if_pos hb] at h; exact ⟨hb, h⟩
  · rw [if_neg hb] at h; cases h
theorem ob_some {α β : Type} {o : Option α} {k : α → Option β} {z : β} (h : o.bind k = some z) : ∃ q, o = some q ∧ k q = some z := by
  cases o with
  | none => cases h
  | some q => exact ⟨q, rfl, h⟩
theorem if_t {α : Type} {c : Prop} [Decidable c] {a b : Option α} {z : α} (h : (if c then a else b) = some z) (hc : c) : a = some z := by rw [if_pos hc] at h; exact h
theorem if_f {α : Type} {c : Prop} [Decidable c] {a b : Option α} {z : α} (h : (if c then a else b) = some z) (hc : ¬ c) : b = some z := by rw [if_neg hc] at h; exact h
theorem ns {α : Type} {z : α} {P : Prop} (h : (none : Option α) = some z) : P := by cases h
def vin (i : Int32) (n : Nat) : Bool := decide (¬ (i < 0 ∨ n ≤ i.toNatClampNeg))
theorem vin_in {i : Int32} {n : Nat} (h : vin i n = true) : vp_in i n := by
  have h2 : ¬ (i < 0 ∨ n ≤ i.toNatClampNeg) := of_decide_eq_true h
  exact h2
def isB (v : Int32) : Bool := decide (v = 0 ∨ v = 1)
theorem isB_n {v : Int32} (h : isB v = true) : narrow .boolean (.int v) = .int v := by rcases of_decide_eq_true h with rfl | rfl <;> rfl
def fu : Nat := 100000
theorem pw {D : va_G} {ws ws2 : va_W} {H : Heap} (h : ws = ws2) (hP : va_P D classes ws H) : va_P D classes ws2 H := h ▸ hP
/-! the words: those that a callee may need, and the links between nest mates -/
def gw : List Cond := lw_tbl.filter goodWord
theorem gw_good (w : Cond) (h : w ∈ gw) : (w.onTables && w.keeps) = true ∨ ∃ ty, w = .arrayClass ty := good_of_word (List.mem_filter.mp h).2
theorem in_gw {w : Cond} (i : Nat) (h : lw_tbl[i]? = some w) (g : goodWord w = true) : w ∈ gw := List.mem_filter.mpr ⟨List.mem_of_getElem? h, g⟩
def isNest : Cond → Bool
  | .fieldLinkNest .. => true
  | .methodLinkNest .. => true
  | _ => false
def nw : List Cond := lw_tbl.filter isNest
theorem in_nw {w : Cond} (i : Nat) (h : lw_tbl[i]? = some w) (g : isNest w = true) : w ∈ nw := List.mem_filter.mpr ⟨List.mem_of_getElem? h, g⟩
theorem nest_tab {w : Cond} (h : isNest w = true) : w.onTables = true := by
  match w, h with
  | .fieldLinkNest .., _ => rfl
  | .methodLinkNest .., _ => rfl
theorem nest_warm {w : Cond} {s U : State} (h : isNest w = true) (hW : s.WarmedH U.vm) (hZ : va_Nw w s) : va_Nw w U := by
  match w, h, hZ with
  | .fieldLinkNest .., _, hZ => exact va_Nw.warmF hW hZ
  | .methodLinkNest .., _, hZ => exact va_Nw.warmM hW hZ
def NW (U : State) : Prop := ∀ w ∈ nw, va_Nw w U
theorem NW.warm {s U : State} (hW : s.WarmedH U.vm) (h : NW s) : NW U := fun w hw => nest_warm (List.mem_filter.mp hw).2 hW (h w hw)
theorem NW.same {s U : State} (e : s.vm = U.vm) (h : NW s) : NW U := fun w hw => va_Nw.same (nest_tab (List.mem_filter.mp hw).2) e (h w hw)
/-! the judgements: Qx what a method leaves, Cx what holds all along, WX the machine at a place of the code, Ct a method's contract -/
def Qx {σ : Type} (D : va_G) (A : Nat → Prop) (Wf : σ → va_W) (v : Option Value) (S2 : σ) : Array Value → State → Outcome → State → Prop := fun _ st oc t => (oc = .returned v ∧ va_P D classes (Wf S2) t.heap) ∧ va_F A st t
def Cx {σ : Type} (cc : ByteArray) (nL : Nat) (rt : Option FieldType) (own : String) (D : va_G) (tys : List (ClassId × FieldType)) (A : Nat → Prop) (Wf : σ → va_W) (p : Program) (s : State) (m : MethodId) (args : Array Value) (meth : Method) (c : Code) : Prop := p.tables.exec = Jvm.exec ∧ c.code = cc ∧ meth.sig.returnType = rt ∧ c.maxLocals = nL ∧ s.vm.findClass own = some m.cls ∧ (∀ w ∈ gw, w.before args s = true) ∧ meth.locks = false ∧ va_K D classes tys s ∧ NW s ∧ ∀ S : σ, va_D A (Wf S)
def WX {σ : Type} (R : Room) (D : va_G) (A : Nat → Prop) (Wf : σ → va_W) (p : Program) (l : Launch) (e : Env) (s : State) (m : MethodId) (args : Array Value) (below : List Frame) (meth : Method) (c : Code) (v : Option Value) (S2 : σ) (pc : Nat) (st : List Value) (nL : Nat) (lv : List (Nat × Value)) (S : σ) : Prop := ∀ (H : Heap) (locs : List Loc) (ls : Array Slot), va_P D classes (Wf S) H → va_S A s.heap H locs → lv_has ls nL lv → W p l e R s m args below meth c H locs 0 0 (MQ below (Qx D A Wf v S2) args s 0 0 A) (F0 m pc ls st)
def PX {σ : Type} (D : va_G) (tys : List (ClassId × FieldType)) (A : Nat → Prop) (Wf : σ → va_W) (av : List Value) (S : σ) : Array Value → State → Prop := va_Pc av (fun U => va_P D classes (Wf S) U.heap ∧ va_K D classes tys U ∧ NW U ∧ ∀ S : σ, va_D A (Wf S))
def Ct {σ : Type} (l : Launch) (y : MethodName) (ws : List Cond) (rm : Room) (D : va_G) (tys : List (ClassId × FieldType)) (A : Nat → Prop) (Wf : σ → va_W) (av : List Value) (S : σ) (v : Option Value) (S2 : σ) : Prop := Met l y ws rm (PX D tys A Wf av S) (Qx D A Wf v S2) 0 0 A
theorem PX_blind {σ : Type} {D : va_G} {tys : List (ClassId × FieldType)} {A : Nat → Prop} {Wf : σ → va_W} {av : List Value} {S : σ} : FrameBlind (PX D tys A Wf av S) := fun a U g mk q => by
  obtain ⟨q0, qP, qK, qN, qI⟩ := q
  exact ⟨q0, qP, va_K.moved (u := U) (U := U.calling g mk a) (Vm.Alike.refl U.vm) qK, NW.same (s := U) (U := U.calling g mk a) rfl qN, qI⟩
theorem Ct_of {σ : Type} {l : Launch} {y : MethodName} {cc : ByteArray} {nL : Nat} {rt : Option FieldType} {rm : Room} {D : va_G} {tys : List (ClassId × FieldType)} {A : Nat → Prop} {Wf : σ → va_W} {av : List Value} {S S2 : σ} {v : Option Value} (hy : plainName y.cls = true)
    (body : ∀ (p : Program) (e : Env) (s : State) (m : MethodId) (args : Array Value) (below : List Frame) (meth : Method) (c : Code), Cx cc nL rt y.cls D tys A Wf p s m args meth c → WX rm D A Wf p l e s m args below meth c v S2 0 [] nL (lv_args 0 av) S) (hlen : (lg_sl av).length ≤ nL) : Ct l y (.code y cc nL rt :: gw) rm D tys A Wf av S v S2 := by
  refine Met.ofW (cc := cc) (maxL := nL) (ret := rt) hy rfl ?_
  intro p e s m args below meth c s₁ B hml hv
  obtain ⟨rfl, hP, hK, hN, hI⟩ := hv
  have hts := atoms_spec (ws := .code y cc nL rt :: gw) B.pre
  rw [lg_entry_eq]
  exact body p e s m _ below meth c ⟨B.exec, B.bytes, B.returns, hml, findClass_of_methodNamed B.named, fun w h => hts w (List.mem_cons_of_mem _ h), B.notSynchronized, hK, hN, hI⟩ _ _ _ hP va_S.rf (lv_entry av hlen)
def nm2 (y : MethodName) (n : Nat) : Prop := y.cls ≠ "java/lang/invoke/MethodHandle" ∧ y.cls ≠ "java/lang/invoke/VarHandle" ∧ (parseMethodDescriptor y.desc).map (fun d => d.parameters.length) = some n
/-- what a call of an instance method needs of the tables -/
def CalV (y : MethodName) (bytes : ByteArray) (maxL : Nat) (ret : Option FieldType) (n : Nat) (rm : Room) : Prop := Cond.code y bytes maxL ret ∈ gw ∧ Cond.instanceMethod y ∈ gw ∧ Cond.selects y.cls y y ∈ gw ∧ Cond.initialized y.cls ∈ gw ∧ nm2 y n ∧ rm.cells = 0 ∧ rm.slots = 0
def CalS (y : MethodName) (bytes : ByteArray) (maxL : Nat) (ret : Option FieldType) (n : Nat) (rm : Room) : Prop := Cond.code y bytes maxL ret ∈ gw ∧ Cond.static y ∈ gw ∧ Cond.initialized y.cls ∈ gw ∧ nm2 y n ∧ rm.cells = 0 ∧ rm.slots = 0
section CALLS
variable {p : Program} {l : Launch} {e : Env} {R : Room} {s : State} {m : MethodId} {args : Array Value} {below : List Frame} {meth : Method} {c : Code} {H : Heap} {locs : List Loc} {Q : State → Prop}
variable {σ : Type} {D : va_G} {tys : List (ClassId × FieldType)} {A : Nat → Prop} {Wf : σ → va_W} {y : MethodName} {bytes cc : ByteArray} {maxL nL n index pc : Nat} {ret rt : Option FieldType} {rm : Room} {own host : String} {b : Addr} {As rest st0 : List Value} {S S1 : σ} {v : Option Value} {ls : Array Slot} {a : Array Value}
theorem fin_call (hr : va_Run p l e R s m args below meth c H locs 0 0 0 0 (F0 m pc ls st0) rest (Qx D A Wf v S1 a) A) (hS : va_S A s.heap H locs) (kk : ∀ (H1 : Heap) (locs1 : List Loc), va_P D classes (Wf S1) H1 → va_S A s.heap H1 locs1 → W p l e R s m args below meth c H1 locs1 0 0 Q (F0 m (pc + 3) ls (v.toList ++ rest))) : W p l e R s m args below meth c H locs 0 0 Q (F0 m pc ls st0) := by
  intro T hT X
  obtain ⟨w, st₀, t, T2, L, h0, X2, hL, e1, e2, ⟨⟨hv, hp⟩, hz, hk⟩, st⟩ := hr T hT X
  cases hv
  rw [h0] at hz hk
  obtain ⟨t2, a1, b1⟩ := kk T2.heap (locs ++ L) (by rw [e1]; exact hp) ⟨Nat.le_trans hS.1 (by rw [e1]; exact hz), fun q h1 h2 => by rw [e1, hk q (Nat.lt_of_lt_of_le h1 hS.1) h2]; exact hS.2.1 q h1 h2, fun q hq => by
      rcases List.mem_append.mp hq with h | h
      · exact hS.2.2 q h
      · exact hL q h⟩ T2 rfl X2
  exact ⟨t2, st t2 a1, b1⟩
theorem good_code (h : Cond.code y bytes maxL ret ∈ gw) : GoodIn gw (Cond.code y bytes maxL ret :: gw) := by
  intro w hw
  have hm : w ∈ gw := by
    rcases List.mem_cons.mp hw with rfl | h2
    · exact h
    · exact h2
  exact ⟨hm, gw_good w hm⟩
theorem cl_V (X : Cx cc nL rt own D tys A Wf p s m args meth c) (hM : Ct l y (.code y bytes maxL ret :: gw) rm D tys A Wf (.ref b :: As) S v S1) (ok : CalV y bytes maxL ret n rm) (hlink : Cond.methodLink own index y ∈ gw) (hrecv : ∃ cell : Cell, H[b]? = some cell ∧ cell.vm.isStatics = false ∧ s.vm.findClass y.cls = some cell.cls) (hst : st0 = As.reverse ++ .ref b :: rest) (hn : As.length = n) (hsz : ls.size = nL) (hW : (rest.map fun v => v.category).sum ≤ 8) (hdg : decode cc pc = .ok (.invokevirtual index, 3)) (hR : rm.frames + 1 ≤ R.frames ∧ 8 + (maxL + 11) + rm.locals ≤ R.locals) (hP : va_P D classes (Wf S) H) (hS : va_S A s.heap H locs) (kk : ∀ (H1 : Heap) (locs1 : List Loc), va_P D classes (Wf S1) H1 → va_S A s.heap H1 locs1 → W p l e R s m args below meth c H1 locs1 0 0 Q (F0 m (pc + 3) ls (v.toList ++ rest))) : W p l e R s m args below meth c H locs 0 0 Q (F0 m pc ls st0) := by
  obtain ⟨hx, hb, hr0, hml, hown, htg, hlk, hK, hN, hI⟩ := id X
  obtain ⟨hcode, hinst, hsel, hini, hd, hc0, hs0⟩ := ok
  have cw : CallW R s args own y.cls index y bytes maxL ret (.code y bytes maxL ret :: gw) rm 0 0 n := ⟨callB_of n htg (good_code hcode) rfl hc0 hs0 (htg _ hini) (htg _ hlink) hd hR, htg _ hinst, htg _ hsel⟩
  exact fin_call (va_runV (As := As) (rest := rest) ⟨hx, hb, hml, hown, htg⟩ hM cw ⟨PX_blind, hrecv, fun U hU hW2 => ⟨rfl, by rw [hU]; exact hP, va_K.moved hW2.alike hK, NW.warm hW2 hN, hI⟩⟩ rfl hn hsz hst (lv_room hW) hdg ⟨Nat.zero_le _, Nat.zero_le _⟩) hS kk
theorem cl_Vi {r : Int32} (X : Cx cc nL rt own D tys A Wf p s m args meth c) (hM : Ct l y (.code y bytes maxL ret :: gw) rm D tys A Wf (.ref b :: As) S (some (.int r)) S1) (ok : CalV y bytes maxL ret n rm) (hlink : Cond.methodLink own index y ∈ gw) (hrecv : ∃ cell : Cell, H[b]? = some cell ∧ cell.vm.isStatics = false ∧ s.vm.findClass y.cls = some cell.cls) (hst : st0 = As.reverse ++ .ref b :: rest) (hn : As.length = n) (hsz : ls.size = nL) (hW : (rest.map fun v => v.category).sum ≤ 8) (hdg : decode cc pc = .ok (.invokevirtual index, 3)) (hR : rm.frames + 1 ≤ R.frames ∧ 8 + (maxL + 11) + rm.locals ≤ R.locals) (hP : va_P D classes (Wf S) H) (hS : va_S A s.heap H locs) (kk : ∀ (H1 : Heap) (locs1 : List Loc), va_P D classes (Wf S1) H1 → va_S A s.heap H1 locs1 → W p l e R s m args below meth c H1 locs1 0 0 Q (F0 m (pc + 3) ls (.int r :: rest))) : W p l e R s m args below meth c H locs 0 0 Q (F0 m pc ls st0) :=
  cl_V X hM ok hlink hrecv hst hn hsz hW hdg hR hP hS kk
theorem cl_Vl {r : Int64} (X : Cx cc nL rt own D tys A Wf p s m args meth c) (hM : Ct l y (.code y bytes maxL ret :: gw) rm D tys A Wf (.ref b :: As) S (some (.long r)) S1) (ok : CalV y bytes maxL ret n rm) (hlink : Cond.methodLink own index y ∈ gw) (hrecv : ∃ cell : Cell, H[b]? = some cell ∧ cell.vm.isStatics = false ∧ s.vm.findClass y.cls = some cell.cls) (hst : st0 = As.reverse ++ .ref b :: rest) (hn : As.length = n) (hsz : ls.size = nL) (hW : (rest.map fun v => v.category).sum ≤ 8) (hdg : decode cc pc = .ok (.invokevirtual index, 3)) (hR : rm.frames + 1 ≤ R.frames ∧ 8 + (maxL + 11) + rm.locals ≤ R.locals) (hP : va_P D classes (Wf S) H) (hS : va_S A s.heap H locs) (kk : ∀ (H1 : Heap) (locs1 : List Loc), va_P D classes (Wf S1) H1 → va_S A s.heap H1 locs1 → W p l e R s m args below meth c H1 locs1 0 0 Q (F0 m (pc + 3) ls (.long r :: rest))) : W p l e R s m args below meth c H locs 0 0 Q (F0 m pc ls st0) :=
  cl_V X hM ok hlink hrecv hst hn hsz hW hdg hR hP hS kk
theorem cl_Vr {r : Nat} (X : Cx cc nL rt own D tys A Wf p s m args meth c) (hM : Ct l y (.code y bytes maxL ret :: gw) rm D tys A Wf (.ref b :: As) S (some (.ref r)) S1) (ok : CalV y bytes maxL ret n rm) (hlink : Cond.methodLink own index y ∈ gw) (hrecv : ∃ cell : Cell, H[b]? = some cell ∧ cell.vm.isStatics = false ∧ s.vm.findClass y.cls = some cell.cls) (hst : st0 = As.reverse ++ .ref b :: rest) (hn : As.length = n) (hsz : ls.size = nL) (hW : (rest.map fun v => v.category).sum ≤ 8) (hdg : decode cc pc = .ok (.invokevirtual index, 3)) (hR : rm.frames + 1 ≤ R.frames ∧ 8 + (maxL + 11) + rm.locals ≤ R.locals) (hP : va_P D classes (Wf S) H) (hS : va_S A s.heap H locs) (kk : ∀ (H1 : Heap) (locs1 : List Loc), va_P D classes (Wf S1) H1 → va_S A s.heap H1 locs1 → W p l e R s m args below meth c H1 locs1 0 0 Q (F0 m (pc + 3) ls (.ref r :: rest))) : W p l e R s m args below meth c H locs 0 0 Q (F0 m pc ls st0) :=
  cl_V X hM ok hlink hrecv hst hn hsz hW hdg hR hP hS kk
theorem cl_Vv (X : Cx cc nL rt own D tys A Wf p s m args meth c) (hM : Ct l y (.code y bytes maxL ret :: gw) rm D tys A Wf (.ref b :: As) S none S1) (ok : CalV y bytes maxL ret n rm) (hlink : Cond.methodLink own index y ∈ gw) (hrecv : ∃ cell : Cell, H[b]? = some cell ∧ cell.vm.isStatics = false ∧ s.vm.findClass y.cls = some cell.cls) (hst : st0 = As.reverse ++ .ref b :: rest) (hn : As.length = n) (hsz : ls.size = nL) (hW : (rest.map fun v => v.category).sum ≤ 8) (hdg : decode cc pc = .ok (.invokevirtual index, 3)) (hR : rm.frames + 1 ≤ R.frames ∧ 8 + (maxL + 11) + rm.locals ≤ R.locals) (hP : va_P D classes (Wf S) H) (hS : va_S A s.heap H locs) (kk : ∀ (H1 : Heap) (locs1 : List Loc), va_P D classes (Wf S1) H1 → va_S A s.heap H1 locs1 → W p l e R s m args below meth c H1 locs1 0 0 Q (F0 m (pc + 3) ls (rest))) : W p l e R s m args below meth c H locs 0 0 Q (F0 m pc ls st0) :=
  cl_V X hM ok hlink hrecv hst hn hsz hW hdg hR hP hS kk
theorem cl_N (X : Cx cc nL rt own D tys A Wf p s m args meth c) (hM : Ct l y (.code y bytes maxL ret :: gw) rm D tys A Wf (.ref b :: As) S v S1) (ok : CalV y bytes maxL ret n rm) (hlink : Cond.methodLinkNest own index y host ∈ nw) (hrecv : ∃ cell : Cell, H[b]? = some cell ∧ cell.vm.isStatics = false ∧ s.vm.findClass y.cls = some cell.cls) (hst : st0 = As.reverse ++ .ref b :: rest) (hn : As.length = n) (hsz : ls.size = nL) (hW : (rest.map fun v => v.category).sum ≤ 8) (hdg : decode cc pc = .ok (.invokevirtual index, 3)) (hR : rm.frames + 1 ≤ R.frames ∧ 8 + (maxL + 11) + rm.locals ≤ R.locals) (hP : va_P D classes (Wf S) H) (hS : va_S A s.heap H locs) (kk : ∀ (H1 : Heap) (locs1 : List Loc), va_P D classes (Wf S1) H1 → va_S A s.heap H1 locs1 → W p l e R s m args below meth c H1 locs1 0 0 Q (F0 m (pc + 3) ls (v.toList ++ rest))) : W p l e R s m args below meth c H locs 0 0 Q (F0 m pc ls st0) := by
  obtain ⟨hx, hb, hr0, hml, hown, htg, hlk, hK, hN, hI⟩ := id X
  obtain ⟨hcode, hinst, hsel, hini, hd, hc0, hs0⟩ := ok
  have cw := va_cnB (R := R) (own := own) (index := index) n htg (good_code hcode) rfl hc0 hs0 (hN _ hlink) (htg _ hini) hd hR
  exact fin_call (va_runVN (C := y.cls) (As := As) (rest := rest) ⟨hx, hb, hml, hown, htg⟩ hM ⟨cw, htg _ hinst, htg _ hsel⟩ ⟨PX_blind, hrecv, fun U hU hW2 => ⟨rfl, by rw [hU]; exact hP, va_K.moved hW2.alike hK, NW.warm hW2 hN, hI⟩⟩ rfl hn hsz hst (lv_room hW) hdg ⟨Nat.zero_le _, Nat.zero_le _⟩) hS kk
theorem cl_Ni {r : Int32} (X : Cx cc nL rt own D tys A Wf p s m args meth c) (hM : Ct l y (.code y bytes maxL ret :: gw) rm D tys A Wf (.ref b :: As) S (some (.int r)) S1) (ok : CalV y bytes maxL ret n rm) (hlink : Cond.methodLinkNest own index y host ∈ nw) (hrecv : ∃ cell : Cell, H[b]? = some cell ∧ cell.vm.isStatics = false ∧ s.vm.findClass y.cls = some cell.cls) (hst : st0 = As.reverse ++ .ref b :: rest) (hn : As.length = n) (hsz : ls.size = nL) (hW : (rest.map fun v => v.category).sum ≤ 8) (hdg : decode cc pc = .ok (.invokevirtual index, 3)) (hR : rm.frames + 1 ≤ R.frames ∧ 8 + (maxL + 11) + rm.locals ≤ R.locals) (hP : va_P D classes (Wf S) H) (hS : va_S A s.heap H locs) (kk : ∀ (H1 : Heap) (locs1 : List Loc), va_P D classes (Wf S1) H1 → va_S A s.heap H1 locs1 → W p l e R s m args below meth c H1 locs1 0 0 Q (F0 m (pc + 3) ls (.int r :: rest))) : W p l e R s m args below meth c H locs 0 0 Q (F0 m pc ls st0) :=
  cl_N X hM ok hlink hrecv hst hn hsz hW hdg hR hP hS kk
theorem cl_Nl {r : Int64} (X : Cx cc nL rt own D tys A Wf p s m args meth c) (hM : Ct l y (.code y bytes maxL ret :: gw) rm D tys A Wf (.ref b :: As) S (some (.long r)) S1) (ok : CalV y bytes maxL ret n rm) (hlink : Cond.methodLinkNest own index y host ∈ nw) (hrecv : ∃ cell : Cell, H[b]? = some cell ∧ cell.vm.isStatics = false ∧ s.vm.findClass y.cls = some cell.cls) (hst : st0 = As.reverse ++ .ref b :: rest) (hn : As.length = n) (hsz : ls.size = nL) (hW : (rest.map fun v => v.category).sum ≤ 8) (hdg : decode cc pc = .ok (.invokevirtual index, 3)) (hR : rm.frames + 1 ≤ R.frames ∧ 8 + (maxL + 11) + rm.locals ≤ R.locals) (hP : va_P D classes (Wf S) H) (hS : va_S A s.heap H locs) (kk : ∀ (H1 : Heap) (locs1 : List Loc), va_P D classes (Wf S1) H1 → va_S A s.heap H1 locs1 → W p l e R s m args below meth c H1 locs1 0 0 Q (F0 m (pc + 3) ls (.long r :: rest))) : W p l e R s m args below meth c H locs 0 0 Q (F0 m pc ls st0) :=
  cl_N X hM ok hlink hrecv hst hn hsz hW hdg hR hP hS kk
theorem cl_Nr {r : Nat} (X : Cx cc nL rt own D tys A Wf p s m args meth c) (hM : Ct l y (.code y bytes maxL ret :: gw) rm D tys A Wf (.ref b :: As) S (some (.ref r)) S1) (ok : CalV y bytes maxL ret n rm) (hlink : Cond.methodLinkNest own index y host ∈ nw) (hrecv : ∃ cell : Cell, H[b]? = some cell ∧ cell.vm.isStatics = false ∧ s.vm.findClass y.cls = some cell.cls) (hst : st0 = As.reverse ++ .ref b :: rest) (hn : As.length = n) (hsz : ls.size = nL) (hW : (rest.map fun v => v.category).sum ≤ 8) (hdg : decode cc pc = .ok (.invokevirtual index, 3)) (hR : rm.frames + 1 ≤ R.frames ∧ 8 + (maxL + 11) + rm.locals ≤ R.locals) (hP : va_P D classes (Wf S) H) (hS : va_S A s.heap H locs) (kk : ∀ (H1 : Heap) (locs1 : List Loc), va_P D classes (Wf S1) H1 → va_S A s.heap H1 locs1 → W p l e R s m args below meth c H1 locs1 0 0 Q (F0 m (pc + 3) ls (.ref r :: rest))) : W p l e R s m args below meth c H locs 0 0 Q (F0 m pc ls st0) :=
  cl_N X hM ok hlink hrecv hst hn hsz hW hdg hR hP hS kk
theorem cl_Nv (X : Cx cc nL rt own D tys A Wf p s m args meth c) (hM : Ct l y (.code y bytes maxL ret :: gw) rm D tys A Wf (.ref b :: As) S none S1) (ok : CalV y bytes maxL ret n rm) (hlink : Cond.methodLinkNest own index y host ∈ nw) (hrecv : ∃ cell : Cell, H[b]? = some cell ∧ cell.vm.isStatics = false ∧ s.vm.findClass y.cls = some cell.cls) (hst : st0 = As.reverse ++ .ref b :: rest) (hn : As.length = n) (hsz : ls.size = nL) (hW : (rest.map fun v => v.category).sum ≤ 8) (hdg : decode cc pc = .ok (.invokevirtual index, 3)) (hR : rm.frames + 1 ≤ R.frames ∧ 8 + (maxL + 11) + rm.locals ≤ R.locals) (hP : va_P D classes (Wf S) H) (hS : va_S A s.heap H locs) (kk : ∀ (H1 : Heap) (locs1 : List Loc), va_P D classes (Wf S1) H1 → va_S A s.heap H1 locs1 → W p l e R s m args below meth c H1 locs1 0 0 Q (F0 m (pc + 3) ls (rest))) : W p l e R s m args below meth c H locs 0 0 Q (F0 m pc ls st0) :=
  cl_N X hM ok hlink hrecv hst hn hsz hW hdg hR hP hS kk
theorem cl_S (X : Cx cc nL rt own D tys A Wf p s m args meth c) (hM : Ct l y (.code y bytes maxL ret :: gw) rm D tys A Wf As S v S1) (ok : CalS y bytes maxL ret n rm) (hlink : Cond.methodLink own index y ∈ gw) (hst : st0 = As.reverse ++ rest) (hn : As.length = n) (hsz : ls.size = nL) (hW : (rest.map fun v => v.category).sum ≤ 8) (hdg : decode cc pc = .ok (.invokestatic index, 3)) (hR : rm.frames + 1 ≤ R.frames ∧ 8 + (maxL + 11) + rm.locals ≤ R.locals) (hP : va_P D classes (Wf S) H) (hS : va_S A s.heap H locs) (kk : ∀ (H1 : Heap) (locs1 : List Loc), va_P D classes (Wf S1) H1 → va_S A s.heap H1 locs1 → W p l e R s m args below meth c H1 locs1 0 0 Q (F0 m (pc + 3) ls (v.toList ++ rest))) : W p l e R s m args below meth c H locs 0 0 Q (F0 m pc ls st0) := by
  obtain ⟨hx, hb, hr0, hml, hown, htg, hlk, hK, hN, hI⟩ := id X
  obtain ⟨hcode, hstat, hini, hd, hc0, hs0⟩ := ok
  have cw : CallB R s args own index y bytes maxL ret (.code y bytes maxL ret :: gw) rm 0 0 n := callB_of n htg (good_code hcode) rfl hc0 hs0 (htg _ hini) (htg _ hlink) hd hR
  exact fin_call (va_runS (As := As) (rest := rest) ⟨hx, hb, hml, hown, htg⟩ hM ⟨cw, htg _ hstat⟩ ⟨PX_blind, fun U hU hW2 => ⟨rfl, by rw [hU]; exact hP, va_K.moved hW2.alike hK, NW.warm hW2 hN, hI⟩⟩ rfl hn hsz hst (lv_room hW) hdg ⟨Nat.zero_le _, Nat.zero_le _⟩) hS kk
theorem cl_Si {r : Int32} (X : Cx cc nL rt own D tys A Wf p s m args meth c) (hM : Ct l y (.code y bytes maxL ret :: gw) rm D tys A Wf As S (some (.int r)) S1) (ok : CalS y bytes maxL ret n rm) (hlink : Cond.methodLink own index y ∈ gw) (hst : st0 = As.reverse ++ rest) (hn : As.length = n) (hsz : ls.size = nL) (hW : (rest.map fun v => v.category).sum ≤ 8) (hdg : decode cc pc = .ok (.invokestatic index, 3)) (hR : rm.frames + 1 ≤ R.frames ∧ 8 + (maxL + 11) + rm.locals ≤ R.locals) (hP : va_P D classes (Wf S) H) (hS : va_S A s.heap H locs) (kk : ∀ (H1 : Heap) (locs1 : List Loc), va_P D classes (Wf S1) H1 → va_S A s.heap H1 locs1 → W p l e R s m args below meth c H1 locs1 0 0 Q (F0 m (pc + 3) ls (.int r :: rest))) : W p l e R s m args below meth c H locs 0 0 Q (F0 m pc ls st0) :=
  cl_S X hM ok hlink hst hn hsz hW hdg hR hP hS kk
theorem cl_Sl {r : Int64} (X : Cx cc nL rt own D tys A Wf p s m args meth c) (hM : Ct l y (.code y bytes maxL ret :: gw) rm D tys A Wf As S (some (.long r)) S1) (ok : CalS y bytes maxL ret n rm) (hlink : Cond.methodLink own index y ∈ gw) (hst : st0 = As.reverse ++ rest) (hn : As.length = n) (hsz : ls.size = nL) (hW : (rest.map fun v => v.category).sum ≤ 8) (hdg : decode cc pc = .ok (.invokestatic index, 3)) (hR : rm.frames + 1 ≤ R.frames ∧ 8 + (maxL + 11) + rm.locals ≤ R.locals) (hP : va_P D classes (Wf S) H) (hS : va_S A s.heap H locs) (kk : ∀ (H1 : Heap) (locs1 : List Loc), va_P D classes (Wf S1) H1 → va_S A s.heap H1 locs1 → W p l e R s m args below meth c H1 locs1 0 0 Q (F0 m (pc + 3) ls (.long r :: rest))) : W p l e R s m args below meth c H locs 0 0 Q (F0 m pc ls st0) :=
  cl_S X hM ok hlink hst hn hsz hW hdg hR hP hS kk
theorem cl_Sr {r : Nat} (X : Cx cc nL rt own D tys A Wf p s m args meth c) (hM : Ct l y (.code y bytes maxL ret :: gw) rm D tys A Wf As S (some (.ref r)) S1) (ok : CalS y bytes maxL ret n rm) (hlink : Cond.methodLink own index y ∈ gw) (hst : st0 = As.reverse ++ rest) (hn : As.length = n) (hsz : ls.size = nL) (hW : (rest.map fun v => v.category).sum ≤ 8) (hdg : decode cc pc = .ok (.invokestatic index, 3)) (hR : rm.frames + 1 ≤ R.frames ∧ 8 + (maxL + 11) + rm.locals ≤ R.locals) (hP : va_P D classes (Wf S) H) (hS : va_S A s.heap H locs) (kk : ∀ (H1 : Heap) (locs1 : List Loc), va_P D classes (Wf S1) H1 → va_S A s.heap H1 locs1 → W p l e R s m args below meth c H1 locs1 0 0 Q (F0 m (pc + 3) ls (.ref r :: rest))) : W p l e R s m args below meth c H locs 0 0 Q (F0 m pc ls st0) :=
  cl_S X hM ok hlink hst hn hsz hW hdg hR hP hS kk
theorem cl_Sv (X : Cx cc nL rt own D tys A Wf p s m args meth c) (hM : Ct l y (.code y bytes maxL ret :: gw) rm D tys A Wf As S none S1) (ok : CalS y bytes maxL ret n rm) (hlink : Cond.methodLink own index y ∈ gw) (hst : st0 = As.reverse ++ rest) (hn : As.length = n) (hsz : ls.size = nL) (hW : (rest.map fun v => v.category).sum ≤ 8) (hdg : decode cc pc = .ok (.invokestatic index, 3)) (hR : rm.frames + 1 ≤ R.frames ∧ 8 + (maxL + 11) + rm.locals ≤ R.locals) (hP : va_P D classes (Wf S) H) (hS : va_S A s.heap H locs) (kk : ∀ (H1 : Heap) (locs1 : List Loc), va_P D classes (Wf S1) H1 → va_S A s.heap H1 locs1 → W p l e R s m args below meth c H1 locs1 0 0 Q (F0 m (pc + 3) ls (rest))) : W p l e R s m args below meth c H locs 0 0 Q (F0 m pc ls st0) :=
  cl_S X hM ok hlink hst hn hsz hW hdg hR hP hS kk
theorem cl_T (X : Cx cc nL rt own D tys A Wf p s m args meth c) (hM : Ct l y (.code y bytes maxL ret :: gw) rm D tys A Wf As S v S1) (ok : CalS y bytes maxL ret n rm) (hlink : Cond.methodLinkNest own index y host ∈ nw) (hst : st0 = As.reverse ++ rest) (hn : As.length = n) (hsz : ls.size = nL) (hW : (rest.map fun v => v.category).sum ≤ 8) (hdg : decode cc pc = .ok (.invokestatic index, 3)) (hR : rm.frames + 1 ≤ R.frames ∧ 8 + (maxL + 11) + rm.locals ≤ R.locals) (hP : va_P D classes (Wf S) H) (hS : va_S A s.heap H locs) (kk : ∀ (H1 : Heap) (locs1 : List Loc), va_P D classes (Wf S1) H1 → va_S A s.heap H1 locs1 → W p l e R s m args below meth c H1 locs1 0 0 Q (F0 m (pc + 3) ls (v.toList ++ rest))) : W p l e R s m args below meth c H locs 0 0 Q (F0 m pc ls st0) := by
  obtain ⟨hx, hb, hr0, hml, hown, htg, hlk, hK, hN, hI⟩ := id X
  obtain ⟨hcode, hstat, hini, hd, hc0, hs0⟩ := ok
  have cw := va_cnB (R := R) (own := own) (index := index) n htg (good_code hcode) rfl hc0 hs0 (hN _ hlink) (htg _ hini) hd hR
  exact fin_call (va_runSN (As := As) (rest := rest) ⟨hx, hb, hml, hown, htg⟩ hM ⟨cw, htg _ hstat, trivial⟩ ⟨PX_blind, fun U hU hW2 => ⟨rfl, by rw [hU]; exact hP, va_K.moved hW2.alike hK, NW.warm hW2 hN, hI⟩⟩ rfl hn hsz hst (lv_room hW) hdg ⟨Nat.zero_le _, Nat.zero_le _⟩) hS kk
theorem cl_Ti {r : Int32} (X : Cx cc nL rt own D tys A Wf p s m args meth c) (hM : Ct l y (.code y bytes maxL ret :: gw) rm D tys A Wf As S (some (.int r)) S1) (ok : CalS y bytes maxL ret n rm) (hlink : Cond.methodLinkNest own index y host ∈ nw) (hst : st0 = As.reverse ++ rest) (hn : As.length = n) (hsz : ls.size = nL) (hW : (rest.map fun v => v.category).sum ≤ 8) (hdg : decode cc pc = .ok (.invokestatic index, 3)) (hR : rm.frames + 1 ≤ R.frames ∧ 8 + (maxL + 11) + rm.locals ≤ R.locals) (hP : va_P D classes (Wf S) H) (hS : va_S A s.heap H locs) (kk : ∀ (H1 : Heap) (locs1 : List Loc), va_P D classes (Wf S1) H1 → va_S A s.heap H1 locs1 → W p l e R s m args below meth c H1 locs1 0 0 Q (F0 m (pc + 3) ls (.int r :: rest))) : W p l e R s m args below meth c H locs 0 0 Q (F0 m pc ls st0) :=
  cl_T X hM ok hlink hst hn hsz hW hdg hR hP hS kk
theorem cl_Tl {r : Int64} (X : Cx cc nL rt own D tys A Wf p s m args meth c) (hM : Ct l y (.code y bytes maxL ret :: gw) rm D tys A Wf As S (some (.long r)) S1) (ok : CalS y bytes maxL ret n rm) (hlink : Cond.methodLinkNest own index y host ∈ nw) (hst : st0 = As.reverse ++ rest) (hn : As.length = n) (hsz : ls.size = nL) (hW : (rest.map fun v => v.category).sum ≤ 8) (hdg : decode cc pc = .ok (.invokestatic index, 3)) (hR : rm.frames + 1 ≤ R.frames ∧ 8 + (maxL + 11) + rm.locals ≤ R.locals) (hP : va_P D classes (Wf S) H) (hS : va_S A s.heap H locs) (kk : ∀ (H1 : Heap) (locs1 : List Loc), va_P D classes (Wf S1) H1 → va_S A s.heap H1 locs1 → W p l e R s m args below meth c H1 locs1 0 0 Q (F0 m (pc + 3) ls (.long r :: rest))) : W p l e R s m args below meth c H locs 0 0 Q (F0 m pc ls st0) :=
  cl_T X hM ok hlink hst hn hsz hW hdg hR hP hS kk
theorem cl_Tr {r : Nat} (X : Cx cc nL rt own D tys A Wf p s m args meth c) (hM : Ct l y (.code y bytes maxL ret :: gw) rm D tys A Wf As S (some (.ref r)) S1) (ok : CalS y bytes maxL ret n rm) (hlink : Cond.methodLinkNest own index y host ∈ nw) (hst : st0 = As.reverse ++ rest) (hn : As.length = n) (hsz : ls.size = nL) (hW : (rest.map fun v => v.category).sum ≤ 8) (hdg : decode cc pc = .ok (.invokestatic index, 3)) (hR : rm.frames + 1 ≤ R.frames ∧ 8 + (maxL + 11) + rm.locals ≤ R.locals) (hP : va_P D classes (Wf S) H) (hS : va_S A s.heap H locs) (kk : ∀ (H1 : Heap) (locs1 : List Loc), va_P D classes (Wf S1) H1 → va_S A s.heap H1 locs1 → W p l e R s m args below meth c H1 locs1 0 0 Q (F0 m (pc + 3) ls (.ref r :: rest))) : W p l e R s m args below meth c H locs 0 0 Q (F0 m pc ls st0) :=
  cl_T X hM ok hlink hst hn hsz hW hdg hR hP hS kk
theorem cl_Tv (X : Cx cc nL rt own D tys A Wf p s m args meth c) (hM : Ct l y (.code y bytes maxL ret :: gw) rm D tys A Wf As S none S1) (ok : CalS y bytes maxL ret n rm) (hlink : Cond.methodLinkNest own index y host ∈ nw) (hst : st0 = As.reverse ++ rest) (hn : As.length = n) (hsz : ls.size = nL) (hW : (rest.map fun v => v.category).sum ≤ 8) (hdg : decode cc pc = .ok (.invokestatic index, 3)) (hR : rm.frames + 1 ≤ R.frames ∧ 8 + (maxL + 11) + rm.locals ≤ R.locals) (hP : va_P D classes (Wf S) H) (hS : va_S A s.heap H locs) (kk : ∀ (H1 : Heap) (locs1 : List Loc), va_P D classes (Wf S1) H1 → va_S A s.heap H1 locs1 → W p l e R s m args below meth c H1 locs1 0 0 Q (F0 m (pc + 3) ls (rest))) : W p l e R s m args below meth c H locs 0 0 Q (F0 m pc ls st0) :=
  cl_T X hM ok hlink hst hn hsz hW hdg hR hP hS kk
end CALLS
end
section
theorem ki_obj : Cond.instanceMethod objectInit ∈ gw := in_gw 77 (by decide +kernel) rfl
theorem kc_obj : Cond.code objectInit ⟨#[0xb1]⟩ 1 none ∈ gw := in_gw 78 (by decide +kernel) rfl
theorem in_Row : ∀ w ∈ u_ws R_Row F_Row 2, w ∈ gw :=
  show ∀ w ∈ [u_lay R_Row F_Row 0, u_lay R_Row F_Row 1], w ∈ gw from List.forall_mem_cons.mpr ⟨in_gw 130 (by decide +kernel) rfl, List.forall_mem_cons.mpr ⟨in_gw 132 (by decide +kernel) rfl, fun _ h => absurd h List.not_mem_nil⟩⟩
theorem ji_Row : Cond.initialized R_Row ∈ gw := in_gw 61 (by decide +kernel) rfl
theorem in_Slot : ∀ w ∈ u_ws R_Slot F_Slot 4, w ∈ gw :=
  show ∀ w ∈ [u_lay R_Slot F_Slot 0, u_lay R_Slot F_Slot 1, u_lay R_Slot F_Slot 2, u_lay R_Slot F_Slot 3], w ∈ gw from List.forall_mem_cons.mpr ⟨in_gw 239 (by decide +kernel) rfl, List.forall_mem_cons.mpr ⟨in_gw 241 (by decide +kernel) rfl, List.forall_mem_cons.mpr ⟨in_gw 243 (by decide +kernel) rfl, List.forall_mem_cons.mpr ⟨in_gw 245 (by decide +kernel) rfl, fun _ h => absurd h List.not_mem_nil⟩⟩⟩⟩
theorem ji_Slot : Cond.initialized R_Slot ∈ gw := in_gw 67 (by decide +kernel) rfl
theorem in_Phrase : ∀ w ∈ u_ws R_Phrase F_Phrase 3, w ∈ gw :=
  show ∀ w ∈ [u_lay R_Phrase F_Phrase 0, u_lay R_Phrase F_Phrase 1, u_lay R_Phrase F_Phrase 2], w ∈ gw from List.forall_mem_cons.mpr ⟨in_gw 208 (by decide +kernel) rfl, List.forall_mem_cons.mpr ⟨in_gw 210 (by decide +kernel) rfl, List.forall_mem_cons.mpr ⟨in_gw 212 (by decide +kernel) rfl, fun _ h => absurd h List.not_mem_nil⟩⟩⟩
theorem ji_Phrase : Cond.initialized R_Phrase ∈ gw := in_gw 65 (by decide +kernel) rfl
theorem in_Things : ∀ w ∈ u_ws R_Things F_Things 8, w ∈ gw :=
  show ∀ w ∈ [u_lay R_Things F_Things 0, u_lay R_Things F_Things 1, u_lay R_Things F_Things 2, u_lay R_Things F_Things 3, u_lay R_Things F_Things 4, u_lay R_Things F_Things 5, u_lay R_Things F_Things 6, u_lay R_Things F_Things 7], w ∈ gw from List.forall_mem_cons.mpr ⟨in_gw 95 (by decide +kernel) rfl, List.forall_mem_cons.mpr ⟨in_gw 97 (by decide +kernel) rfl, List.forall_mem_cons.mpr ⟨in_gw 99 (by decide +kernel) rfl, List.forall_mem_cons.mpr ⟨in_gw 101 (by decide +kernel) rfl, List.forall_mem_cons.mpr ⟨in_gw 103 (by decide +kernel) rfl, List.forall_mem_cons.mpr ⟨in_gw 105 (by decide +kernel) rfl, List.forall_mem_cons.mpr ⟨in_gw 107 (by decide +kernel) rfl, List.forall_mem_cons.mpr ⟨in_gw 109 (by decide +kernel) rfl, fun _ h => absurd h List.not_mem_nil⟩⟩⟩⟩⟩⟩⟩⟩
theorem ji_Things : Cond.initialized R_Things ∈ gw := in_gw 59 (by decide +kernel) rfl
theorem in_Verbs : ∀ w ∈ u_ws R_Verbs F_Verbs 3, w ∈ gw :=
  show ∀ w ∈ [u_lay R_Verbs F_Verbs 0, u_lay R_Verbs F_Verbs 1, u_lay R_Verbs F_Verbs 2], w ∈ gw from List.forall_mem_cons.mpr ⟨in_gw 138 (by decide +kernel) rfl, List.forall_mem_cons.mpr ⟨in_gw 140 (by decide +kernel) rfl, List.forall_mem_cons.mpr ⟨in_gw 142 (by decide +kernel) rfl, fun _ h => absurd h List.not_mem_nil⟩⟩⟩
theorem ji_Verbs : Cond.initialized R_Verbs ∈ gw := in_gw 60 (by decide +kernel) rfl
theorem in_Lines : ∀ w ∈ u_ws R_Lines F_Lines 7, w ∈ gw :=
  show ∀ w ∈ [u_lay R_Lines F_Lines 0, u_lay R_Lines F_Lines 1, u_lay R_Lines F_Lines 2, u_lay R_Lines F_Lines 3, u_lay R_Lines F_Lines 4, u_lay R_Lines F_Lines 5, u_lay R_Lines F_Lines 6], w ∈ gw from List.forall_mem_cons.mpr ⟨in_gw 158 (by decide +kernel) rfl, List.forall_mem_cons.mpr ⟨in_gw 160 (by decide +kernel) rfl, List.forall_mem_cons.mpr ⟨in_gw 162 (by decide +kernel) rfl, List.forall_mem_cons.mpr ⟨in_gw 164 (by decide +kernel) rfl, List.forall_mem_cons.mpr ⟨in_gw 166 (by decide +kernel) rfl, List.forall_mem_cons.mpr ⟨in_gw 168 (by decide +kernel) rfl, List.forall_mem_cons.mpr ⟨in_gw 170 (by decide +kernel) rfl, fun _ h => absurd h List.not_mem_nil⟩⟩⟩⟩⟩⟩⟩
theorem ji_Lines : Cond.initialized R_Lines ∈ gw := in_gw 63 (by decide +kernel) rfl
theorem in_Values : ∀ w ∈ u_ws R_Values F_Values 3, w ∈ gw :=
  show ∀ w ∈ [u_lay R_Values F_Values 0, u_lay R_Values F_Values 1, u_lay R_Values F_Values 2], w ∈ gw from List.forall_mem_cons.mpr ⟨in_gw 185 (by decide +kernel) rfl, List.forall_mem_cons.mpr ⟨in_gw 187 (by decide +kernel) rfl, List.forall_mem_cons.mpr ⟨in_gw 189 (by decide +kernel) rfl, fun _ h => absurd h List.not_mem_nil⟩⟩⟩
theorem ji_Values : Cond.initialized R_Values ∈ gw := in_gw 64 (by decide +kernel) rfl
theorem in_Trial : ∀ w ∈ u_ws R_Trial F_Trial 13, w ∈ gw :=
  show ∀ w ∈ [u_lay R_Trial F_Trial 0, u_lay R_Trial F_Trial 1, u_lay R_Trial F_Trial 2, u_lay R_Trial F_Trial 3, u_lay R_Trial F_Trial 4, u_lay R_Trial F_Trial 5, u_lay R_Trial F_Trial 6, u_lay R_Trial F_Trial 7, u_lay R_Trial F_Trial 8, u_lay R_Trial F_Trial 9, u_lay R_Trial F_Trial 10, u_lay R_Trial F_Trial 11, u_lay R_Trial F_Trial 12], w ∈ gw from List.forall_mem_cons.mpr ⟨in_gw 273 (by decide +kernel) rfl, List.forall_mem_cons.mpr ⟨in_gw 275 (by decide +kernel) rfl, List.forall_mem_cons.mpr ⟨in_gw 277 (by decide +kernel) rfl, List.forall_mem_cons.mpr ⟨in_gw 279 (by decide +kernel) rfl, List.forall_mem_cons.mpr ⟨in_gw 281 (by decide +kernel) rfl, List.forall_mem_cons.mpr ⟨in_gw 283 (by decide +kernel) rfl, List.forall_mem_cons.mpr ⟨in_gw 285 (by decide +kernel) rfl, List.forall_mem_cons.mpr ⟨in_gw 287 (by decide +kernel) rfl, List.forall_mem_cons.mpr ⟨in_gw 289 (by decide +kernel) rfl, List.forall_mem_cons.mpr ⟨in_gw 291 (by decide +kernel) rfl, List.forall_mem_cons.mpr ⟨in_gw 293 (by decide +kernel) rfl, List.forall_mem_cons.mpr ⟨in_gw 295 (by decide +kernel) rfl, List.forall_mem_cons.mpr ⟨in_gw 297 (by decide +kernel) rfl, fun _ h => absurd h List.not_mem_nil⟩⟩⟩⟩⟩⟩⟩⟩⟩⟩⟩⟩⟩
theorem ji_Trial : Cond.initialized R_Trial ∈ gw := in_gw 66 (by decide +kernel) rfl
theorem in_Report : ∀ w ∈ u_ws R_Report F_Report 9, w ∈ gw :=
  show ∀ w ∈ [u_lay R_Report F_Report 0, u_lay R_Report F_Report 1, u_lay R_Report F_Report 2, u_lay R_Report F_Report 3, u_lay R_Report F_Report 4, u_lay R_Report F_Report 5, u_lay R_Report F_Report 6, u_lay R_Report F_Report 7, u_lay R_Report F_Report 8], w ∈ gw from List.forall_mem_cons.mpr ⟨in_gw 326 (by decide +kernel) rfl, List.forall_mem_cons.mpr ⟨in_gw 328 (by decide +kernel) rfl, List.forall_mem_cons.mpr ⟨in_gw 330 (by decide +kernel) rfl, List.forall_mem_cons.mpr ⟨in_gw 332 (by decide +kernel) rfl, List.forall_mem_cons.mpr ⟨in_gw 334 (by decide +kernel) rfl, List.forall_mem_cons.mpr ⟨in_gw 336 (by decide +kernel) rfl, List.forall_mem_cons.mpr ⟨in_gw 338 (by decide +kernel) rfl, List.forall_mem_cons.mpr ⟨in_gw 340 (by decide +kernel) rfl, List.forall_mem_cons.mpr ⟨in_gw 342 (by decide +kernel) rfl, fun _ h => absurd h List.not_mem_nil⟩⟩⟩⟩⟩⟩⟩⟩⟩
theorem ji_Report : Cond.initialized R_Report ∈ gw := in_gw 68 (by decide +kernel) rfl
theorem in_G : ∀ w ∈ u_ws R_G F_G 13, w ∈ gw :=
  show ∀ w ∈ [u_lay R_G F_G 0, u_lay R_G F_G 1, u_lay R_G F_G 2, u_lay R_G F_G 3, u_lay R_G F_G 4, u_lay R_G F_G 5, u_lay R_G F_G 6, u_lay R_G F_G 7, u_lay R_G F_G 8, u_lay R_G F_G 9, u_lay R_G F_G 10, u_lay R_G F_G 11, u_lay R_G F_G 12], w ∈ gw from List.forall_mem_cons.mpr ⟨in_gw 358 (by decide +kernel) rfl, List.forall_mem_cons.mpr ⟨in_gw 360 (by decide +kernel) rfl, List.forall_mem_cons.mpr ⟨in_gw 362 (by decide +kernel) rfl, List.forall_mem_cons.mpr ⟨in_gw 364 (by decide +kernel) rfl, List.forall_mem_cons.mpr ⟨in_gw 366 (by decide +kernel) rfl, List.forall_mem_cons.mpr ⟨in_gw 368 (by decide +kernel) rfl, List.forall_mem_cons.mpr ⟨in_gw 370 (by decide +kernel) rfl, List.forall_mem_cons.mpr ⟨in_gw 372 (by decide +kernel) rfl, List.forall_mem_cons.mpr ⟨in_gw 374 (by decide +kernel) rfl, List.forall_mem_cons.mpr ⟨in_gw 376 (by decide +kernel) rfl, List.forall_mem_cons.mpr ⟨in_gw 378 (by decide +kernel) rfl, List.forall_mem_cons.mpr ⟨in_gw 380 (by decide +kernel) rfl, List.forall_mem_cons.mpr ⟨in_gw 382 (by decide +kernel) rfl, fun _ h => absurd h List.not_mem_nil⟩⟩⟩⟩⟩⟩⟩⟩⟩⟩⟩⟩⟩
theorem ji_G : Cond.initialized R_G ∈ gw := in_gw 58 (by decide +kernel) rfl
theorem in_M : ∀ w ∈ u_ws R_M F_M 56, w ∈ gw :=
  show ∀ w ∈ [u_lay R_M F_M 0, u_lay R_M F_M 1, u_lay R_M F_M 2, u_lay R_M F_M 3, u_lay R_M F_M 4, u_lay R_M F_M 5, u_lay R_M F_M 6, u_lay R_M F_M 7, u_lay R_M F_M 8, u_lay R_M F_M 9, u_lay R_M F_M 10, u_lay R_M F_M 11, u_lay R_M F_M 12, u_lay R_M F_M 13, u_lay R_M F_M 14, u_lay R_M F_M 15, u_lay R_M F_M 16, u_lay R_M F_M 17, u_lay R_M F_M 18, u_lay R_M F_M 19, u_lay R_M F_M 20, u_lay R_M F_M 21, u_lay R_M F_M 22, u_lay R_M F_M 23, u_lay R_M F_M 24, u_lay R_M F_M 25, u_lay R_M F_M 26, u_lay R_M F_M 27, u_lay R_M F_M 28, u_lay R_M F_M 29, u_lay R_M F_M 30, u_lay R_M F_M 31, u_lay R_M F_M 32, u_lay R_M F_M 33, u_lay R_M F_M 34, u_lay R_M F_M 35, u_lay R_M F_M 36, u_lay R_M F_M 37, u_lay R_M F_M 38, u_lay R_M F_M 39, u_lay R_M F_M 40, u_lay R_M F_M 41, u_lay R_M F_M 42, u_lay R_M F_M 43, u_lay R_M F_M 44, u_lay R_M F_M 45, u_lay R_M F_M 46, u_lay R_M F_M 47, u_lay R_M F_M 48, u_lay R_M F_M 49, u_lay R_M F_M 50, u_lay R_M F_M 51, u_lay R_M F_M 52, u_lay R_M F_M 53, u_lay R_M F_M 54, u_lay R_M F_M 55], w ∈ gw from List.forall_mem_cons.mpr ⟨in_gw 902 (by decide +kernel) rfl, List.forall_mem_cons.mpr ⟨in_gw 904 (by decide +kernel) rfl, List.forall_mem_cons.mpr ⟨in_gw 906 (by decide +kernel) rfl, List.forall_mem_cons.mpr ⟨in_gw 908 (by decide +kernel) rfl, List.forall_mem_cons.mpr ⟨in_gw 910 (by decide +kernel) rfl, List.forall_mem_cons.mpr ⟨in_gw 912 (by decide +kernel) rfl, List.forall_mem_cons.mpr ⟨in_gw 914 (by decide +kernel) rfl, List.forall_mem_cons.mpr ⟨in_gw 916 (by decide +kernel) rfl, List.forall_mem_cons.mpr ⟨in_gw 918 (by decide +kernel) rfl, List.forall_mem_cons.mpr ⟨in_gw 920 (by decide +kernel) rfl, List.forall_mem_cons.mpr ⟨in_gw 922 (by decide +kernel) rfl, List.forall_mem_cons.mpr ⟨in_gw 924 (by decide +kernel) rfl, List.forall_mem_cons.mpr ⟨in_gw 926 (by decide +kernel) rfl, List.forall_mem_cons.mpr ⟨in_gw 928 (by decide +kernel) rfl, List.forall_mem_cons.mpr ⟨in_gw 930 (by decide +kernel) rfl, List.forall_mem_cons.mpr ⟨in_gw 932 (by decide +kernel) rfl, List.forall_mem_cons.mpr ⟨in_gw 934 (by decide +kernel) rfl, List.forall_mem_cons.mpr ⟨in_gw 936 (by decide +kernel) rfl, List.forall_mem_cons.mpr ⟨in_gw 938 (by decide +kernel) rfl, List.forall_mem_cons.mpr ⟨in_gw 940 (by decide +kernel) rfl, List.forall_mem_cons.mpr ⟨in_gw 942 (by decide +kernel) rfl, List.forall_mem_cons.mpr ⟨in_gw 944 (by decide +kernel) rfl, List.forall_mem_cons.mpr ⟨in_gw 946 (by decide +kernel) rfl, List.forall_mem_cons.mpr ⟨in_gw 948 (by decide +kernel) rfl, List.forall_mem_cons.mpr ⟨in_gw 950 (by decide +kernel) rfl, List.forall_mem_cons.mpr ⟨in_gw 952 (by decide +kernel) rfl, List.forall_mem_cons.mpr ⟨in_gw 954 (by decide +kernel) rfl, List.forall_mem_cons.mpr ⟨in_gw 956 (by decide +kernel) rfl, List.forall_mem_cons.mpr ⟨in_gw 958 (by decide +kernel) rfl, List.forall_mem_cons.mpr ⟨in_gw 960 (by decide +kernel) rfl, List.forall_mem_cons.mpr ⟨in_gw 962 (by decide +kernel) rfl, List.forall_mem_cons.mpr ⟨in_gw 964 (by decide +kernel) rfl, List.forall_mem_cons.mpr ⟨in_gw 966 (by decide +kernel) rfl, List.forall_mem_cons.mpr ⟨in_gw 968 (by decide +kernel) rfl, List.forall_mem_cons.mpr ⟨in_gw 970 (by decide +kernel) rfl, List.forall_mem_cons.mpr ⟨in_gw 972 (by decide +kernel) rfl, List.forall_mem_cons.mpr ⟨in_gw 974 (by decide +kernel) rfl, List.forall_mem_cons.mpr ⟨in_gw 976 (by decide +kernel) rfl, List.forall_mem_cons.mpr ⟨in_gw 978 (by decide +kernel) rfl, List.forall_mem_cons.mpr ⟨in_gw 980 (by decide +kernel) rfl, List.forall_mem_cons.mpr ⟨in_gw 982 (by decide +kernel) rfl, List.forall_mem_cons.mpr ⟨in_gw 984 (by decide +kernel) rfl, List.forall_mem_cons.mpr ⟨in_gw 986 (by decide +kernel) rfl, List.forall_mem_cons.mpr ⟨in_gw 988 (by decide +kernel) rfl, List.forall_mem_cons.mpr ⟨in_gw 990 (by decide +kernel) rfl, List.forall_mem_cons.mpr ⟨in_gw 992 (by decide +kernel) rfl, List.forall_mem_cons.mpr ⟨in_gw 994 (by decide +kernel) rfl, List.forall_mem_cons.mpr ⟨in_gw 996 (by decide +kernel) rfl, List.forall_mem_cons.mpr ⟨in_gw 998 (by decide +kernel) rfl, List.forall_mem_cons.mpr ⟨in_gw 1000 (by decide +kernel) rfl, List.forall_mem_cons.mpr ⟨in_gw 1002 (by decide +kernel) rfl, List.forall_mem_cons.mpr ⟨in_gw 1004 (by decide +kernel) rfl, List.forall_mem_cons.mpr ⟨in_gw 1006 (by decide +kernel) rfl, List.forall_mem_cons.mpr ⟨in_gw 1008 (by decide +kernel) rfl, List.forall_mem_cons.mpr ⟨in_gw 1010 (by decide +kernel) rfl, List.forall_mem_cons.mpr ⟨in_gw 1012 (by decide +kernel) rfl, fun _ h => absurd h List.not_mem_nil⟩⟩⟩⟩⟩⟩⟩⟩⟩⟩⟩⟩⟩⟩⟩⟩⟩⟩⟩⟩⟩⟩⟩⟩⟩⟩⟩⟩⟩⟩⟩⟩⟩⟩⟩⟩⟩⟩⟩⟩⟩⟩⟩⟩⟩⟩⟩⟩⟩⟩⟩⟩⟩⟩⟩⟩
theorem ji_M : Cond.initialized R_M ∈ gw := in_gw 69 (by decide +kernel) rfl
theorem ji_JLong : Cond.initialized R_JLong ∈ gw := in_gw 70 (by decide +kernel) rfl
theorem ji_JMath : Cond.initialized R_JMath ∈ gw := in_gw 62 (by decide +kernel) rfl
theorem kc_G_isPlainWord : Cond.code y_G_isPlainWord b_G_isPlainWord 1 (some .boolean) ∈ gw := in_gw 395 (by decide +kernel) rfl
theorem ks_G_isPlainWord : Cond.static y_G_isPlainWord ∈ gw := in_gw 394 (by decide +kernel) rfl
theorem kc_Row_size : Cond.code y_Row_size b_Row_size 1 (some .int) ∈ gw := in_gw 403 (by decide +kernel) rfl
theorem ki_Row_size : Cond.instanceMethod y_Row_size ∈ gw := in_gw 401 (by decide +kernel) rfl
theorem kl_Row_size : Cond.selects R_Row y_Row_size y_Row_size ∈ gw := in_gw 402 (by decide +kernel) rfl
theorem kc_Row_at : Cond.code y_Row_at b_Row_at 2 (some .int) ∈ gw := in_gw 407 (by decide +kernel) rfl
theorem ki_Row_at : Cond.instanceMethod y_Row_at ∈ gw := in_gw 405 (by decide +kernel) rfl
theorem kl_Row_at : Cond.selects R_Row y_Row_at y_Row_at ∈ gw := in_gw 406 (by decide +kernel) rfl
theorem kc_Verbs_find : Cond.code y_Verbs_find b_Verbs_find 3 (some .int) ∈ gw := in_gw 399 (by decide +kernel) rfl
theorem ki_Verbs_find : Cond.instanceMethod y_Verbs_find ∈ gw := in_gw 397 (by decide +kernel) rfl
theorem kl_Verbs_find : Cond.selects R_Verbs y_Verbs_find y_Verbs_find ∈ gw := in_gw 398 (by decide +kernel) rfl
theorem kc_G_mayBeVerbWord : Cond.code y_G_mayBeVerbWord b_G_mayBeVerbWord 2 (some .boolean) ∈ gw := in_gw 392 (by decide +kernel) rfl
theorem ki_G_mayBeVerbWord : Cond.instanceMethod y_G_mayBeVerbWord ∈ gw := in_gw 391 (by decide +kernel) rfl
theorem kl_G_mayBeVerbWord : Cond.selects R_G y_G_mayBeVerbWord y_G_mayBeVerbWord ∈ gw := in_gw 0 (by decide +kernel) rfl
theorem kc_Verbs_isFull : Cond.code y_Verbs_isFull b_Verbs_isFull 1 (some .boolean) ∈ gw := in_gw 411 (by decide +kernel) rfl
theorem ki_Verbs_isFull : Cond.instanceMethod y_Verbs_isFull ∈ gw := in_gw 409 (by decide +kernel) rfl
theorem kl_Verbs_isFull : Cond.selects R_Verbs y_Verbs_isFull y_Verbs_isFull ∈ gw := in_gw 410 (by decide +kernel) rfl
theorem kc_Verbs_hasAllWords : Cond.code y_Verbs_hasAllWords b_Verbs_hasAllWords 1 (some .boolean) ∈ gw := in_gw 415 (by decide +kernel) rfl
theorem ki_Verbs_hasAllWords : Cond.instanceMethod y_Verbs_hasAllWords ∈ gw := in_gw 413 (by decide +kernel) rfl
theorem kl_Verbs_hasAllWords : Cond.selects R_Verbs y_Verbs_hasAllWords y_Verbs_hasAllWords ∈ gw := in_gw 414 (by decide +kernel) rfl
theorem kc_Row_add : Cond.code y_Row_add b_Row_add 2 none ∈ gw := in_gw 427 (by decide +kernel) rfl
theorem ki_Row_add : Cond.instanceMethod y_Row_add ∈ gw := in_gw 425 (by decide +kernel) rfl
theorem kl_Row_add : Cond.selects R_Row y_Row_add y_Row_add ∈ gw := in_gw 426 (by decide +kernel) rfl
theorem kc_Verbs_addWord : Cond.code y_Verbs_addWord b_Verbs_addWord 5 (some .int) ∈ gw := in_gw 423 (by decide +kernel) rfl
theorem ki_Verbs_addWord : Cond.instanceMethod y_Verbs_addWord ∈ gw := in_gw 421 (by decide +kernel) rfl
theorem kl_Verbs_addWord : Cond.selects R_Verbs y_Verbs_addWord y_Verbs_addWord ∈ gw := in_gw 422 (by decide +kernel) rfl
theorem kc_Verbs_add : Cond.code y_Verbs_add b_Verbs_add 2 (some .int) ∈ gw := in_gw 419 (by decide +kernel) rfl
theorem ki_Verbs_add : Cond.instanceMethod y_Verbs_add ∈ gw := in_gw 417 (by decide +kernel) rfl
theorem kl_Verbs_add : Cond.selects R_Verbs y_Verbs_add y_Verbs_add ∈ gw := in_gw 418 (by decide +kernel) rfl
theorem kc_G_verb : Cond.code y_G_verb b_G_verb 2 (some .int) ∈ gw := in_gw 388 (by decide +kernel) rfl
theorem ki_G_verb : Cond.instanceMethod y_G_verb ∈ gw := in_gw 386 (by decide +kernel) rfl
theorem kl_G_verb : Cond.selects R_G y_G_verb y_G_verb ∈ gw := in_gw 387 (by decide +kernel) rfl
theorem kc_Verbs_has : Cond.code y_Verbs_has b_Verbs_has 2 (some .boolean) ∈ gw := in_gw 435 (by decide +kernel) rfl
theorem ki_Verbs_has : Cond.instanceMethod y_Verbs_has ∈ gw := in_gw 433 (by decide +kernel) rfl
theorem kl_Verbs_has : Cond.selects R_Verbs y_Verbs_has y_Verbs_has ∈ gw := in_gw 434 (by decide +kernel) rfl
theorem kc_G_like : Cond.code y_G_like b_G_like 3 (some .int) ∈ gw := in_gw 431 (by decide +kernel) rfl
theorem ki_G_like : Cond.instanceMethod y_G_like ∈ gw := in_gw 429 (by decide +kernel) rfl
theorem kl_G_like : Cond.selects R_G y_G_like y_G_like ∈ gw := in_gw 430 (by decide +kernel) rfl
theorem kc_Lines_isFull : Cond.code y_Lines_isFull b_Lines_isFull 1 (some .boolean) ∈ gw := in_gw 444 (by decide +kernel) rfl
theorem ki_Lines_isFull : Cond.instanceMethod y_Lines_isFull ∈ gw := in_gw 442 (by decide +kernel) rfl
theorem kl_Lines_isFull : Cond.selects R_Lines y_Lines_isFull y_Lines_isFull ∈ gw := in_gw 443 (by decide +kernel) rfl
theorem kc_Lines_add : Cond.code y_Lines_add b_Lines_add 4 (some .int) ∈ gw := in_gw 448 (by decide +kernel) rfl
theorem ki_Lines_add : Cond.instanceMethod y_Lines_add ∈ gw := in_gw 446 (by decide +kernel) rfl
theorem kl_Lines_add : Cond.selects R_Lines y_Lines_add y_Lines_add ∈ gw := in_gw 447 (by decide +kernel) rfl
theorem kc_G_line : Cond.code y_G_line b_G_line 4 (some .int) ∈ gw := in_gw 440 (by decide +kernel) rfl
theorem ki_G_line : Cond.instanceMethod y_G_line ∈ gw := in_gw 438 (by decide +kernel) rfl
theorem kl_G_line : Cond.selects R_G y_G_line y_G_line ∈ gw := in_gw 439 (by decide +kernel) rfl
theorem kc_Lines_has : Cond.code y_Lines_has b_Lines_has 2 (some .boolean) ∈ gw := in_gw 457 (by decide +kernel) rfl
theorem ki_Lines_has : Cond.instanceMethod y_Lines_has ∈ gw := in_gw 455 (by decide +kernel) rfl
theorem kl_Lines_has : Cond.selects R_Lines y_Lines_has y_Lines_has ∈ gw := in_gw 456 (by decide +kernel) rfl
theorem kc_G_mayBeToken : Cond.code y_G_mayBeToken b_G_mayBeToken 2 (some .boolean) ∈ gw := in_gw 460 (by decide +kernel) rfl
theorem ks_G_mayBeToken : Cond.static y_G_mayBeToken ∈ gw := in_gw 459 (by decide +kernel) rfl
theorem kc_Lines_kindsOf : Cond.code y_Lines_kindsOf b_Lines_kindsOf 2 (some .int) ∈ gw := in_gw 468 (by decide +kernel) rfl
theorem ki_Lines_kindsOf : Cond.instanceMethod y_Lines_kindsOf ∈ gw := in_gw 466 (by decide +kernel) rfl
theorem kl_Lines_kindsOf : Cond.selects R_Lines y_Lines_kindsOf y_Lines_kindsOf ∈ gw := in_gw 467 (by decide +kernel) rfl
theorem kc_Lines_kindAt : Cond.code y_Lines_kindAt b_Lines_kindAt 3 (some .int) ∈ gw := in_gw 473 (by decide +kernel) rfl
theorem ki_Lines_kindAt : Cond.instanceMethod y_Lines_kindAt ∈ gw := in_gw 471 (by decide +kernel) rfl
theorem kl_Lines_kindAt : Cond.selects R_Lines y_Lines_kindAt y_Lines_kindAt ∈ gw := in_gw 472 (by decide +kernel) rfl
theorem kc_G_isSlot : Cond.code y_G_isSlot b_G_isSlot 1 (some .boolean) ∈ gw := in_gw 476 (by decide +kernel) rfl
theorem ks_G_isSlot : Cond.static y_G_isSlot ∈ gw := in_gw 475 (by decide +kernel) rfl
theorem kc_Lines_slotsOf : Cond.code y_Lines_slotsOf b_Lines_slotsOf 4 (some .int) ∈ gw := in_gw 480 (by decide +kernel) rfl
theorem ki_Lines_slotsOf : Cond.instanceMethod y_Lines_slotsOf ∈ gw := in_gw 478 (by decide +kernel) rfl
theorem kl_Lines_slotsOf : Cond.selects R_Lines y_Lines_slotsOf y_Lines_slotsOf ∈ gw := in_gw 479 (by decide +kernel) rfl
theorem kc_Lines_allows : Cond.code y_Lines_allows b_Lines_allows 4 (some .boolean) ∈ gw := in_gw 464 (by decide +kernel) rfl
theorem ki_Lines_allows : Cond.instanceMethod y_Lines_allows ∈ gw := in_gw 462 (by decide +kernel) rfl
theorem kl_Lines_allows : Cond.selects R_Lines y_Lines_allows y_Lines_allows ∈ gw := in_gw 463 (by decide +kernel) rfl
theorem kc_Lines_addKind : Cond.code y_Lines_addKind b_Lines_addKind 5 (some .int) ∈ gw := in_gw 485 (by decide +kernel) rfl
theorem ki_Lines_addKind : Cond.instanceMethod y_Lines_addKind ∈ gw := in_gw 483 (by decide +kernel) rfl
theorem kl_Lines_addKind : Cond.selects R_Lines y_Lines_addKind y_Lines_addKind ∈ gw := in_gw 484 (by decide +kernel) rfl
theorem kc_G_token : Cond.code y_G_token b_G_token 4 (some .int) ∈ gw := in_gw 453 (by decide +kernel) rfl
theorem ki_G_token : Cond.instanceMethod y_G_token ∈ gw := in_gw 451 (by decide +kernel) rfl
theorem kl_G_token : Cond.selects R_G y_G_token y_G_token ∈ gw := in_gw 452 (by decide +kernel) rfl
theorem kc_G_mayBeFlags : Cond.code y_G_mayBeFlags b_G_mayBeFlags 1 (some .boolean) ∈ gw := in_gw 492 (by decide +kernel) rfl
theorem ks_G_mayBeFlags : Cond.static y_G_mayBeFlags ∈ gw := in_gw 491 (by decide +kernel) rfl
theorem kc_Things_isFull : Cond.code y_Things_isFull b_Things_isFull 1 (some .boolean) ∈ gw := in_gw 496 (by decide +kernel) rfl
theorem ki_Things_isFull : Cond.instanceMethod y_Things_isFull ∈ gw := in_gw 494 (by decide +kernel) rfl
theorem kl_Things_isFull : Cond.selects R_Things y_Things_isFull y_Things_isFull ∈ gw := in_gw 495 (by decide +kernel) rfl
theorem kc_Things_has : Cond.code y_Things_has b_Things_has 2 (some .boolean) ∈ gw := in_gw 509 (by decide +kernel) rfl
theorem ki_Things_has : Cond.instanceMethod y_Things_has ∈ gw := in_gw 507 (by decide +kernel) rfl
theorem kl_Things_has : Cond.selects R_Things y_Things_has y_Things_has ∈ gw := in_gw 508 (by decide +kernel) rfl
theorem kc_Things_withAnyOf : Cond.code y_Things_withAnyOf b_Things_withAnyOf 5 (some .long) ∈ gw := in_gw 513 (by decide +kernel) rfl
theorem ki_Things_withAnyOf : Cond.instanceMethod y_Things_withAnyOf ∈ gw := in_gw 512 (by decide +kernel) rfl
theorem kl_Things_withAnyOf : Cond.selects R_Things y_Things_withAnyOf y_Things_withAnyOf ∈ gw := in_gw 1 (by decide +kernel) rfl
theorem kc_Things_changeFlags : Cond.code y_Things_changeFlags b_Things_changeFlags 4 (some .int) ∈ gw := in_gw 505 (by decide +kernel) rfl
theorem ki_Things_changeFlags : Cond.instanceMethod y_Things_changeFlags ∈ gw := in_gw 503 (by decide +kernel) rfl
theorem kl_Things_changeFlags : Cond.selects R_Things y_Things_changeFlags y_Things_changeFlags ∈ gw := in_gw 504 (by decide +kernel) rfl
theorem kc_Things_add : Cond.code y_Things_add b_Things_add 2 (some .int) ∈ gw := in_gw 500 (by decide +kernel) rfl
theorem ki_Things_add : Cond.instanceMethod y_Things_add ∈ gw := in_gw 498 (by decide +kernel) rfl
theorem kl_Things_add : Cond.selects R_Things y_Things_add y_Things_add ∈ gw := in_gw 499 (by decide +kernel) rfl
theorem kc_G_thing : Cond.code y_G_thing b_G_thing 2 (some .int) ∈ gw := in_gw 489 (by decide +kernel) rfl
theorem ki_G_thing : Cond.instanceMethod y_G_thing ∈ gw := in_gw 487 (by decide +kernel) rfl
theorem kl_G_thing : Cond.selects R_G y_G_thing y_G_thing ∈ gw := in_gw 488 (by decide +kernel) rfl
theorem kc_Things_isNamed : Cond.code y_Things_isNamed b_Things_isNamed 4 (some .boolean) ∈ gw := in_gw 522 (by decide +kernel) rfl
theorem ki_Things_isNamed : Cond.instanceMethod y_Things_isNamed ∈ gw := in_gw 520 (by decide +kernel) rfl
theorem kl_Things_isNamed : Cond.selects R_Things y_Things_isNamed y_Things_isNamed ∈ gw := in_gw 521 (by decide +kernel) rfl
theorem kc_Things_namesOf : Cond.code y_Things_namesOf b_Things_namesOf 2 (some .int) ∈ gw := in_gw 526 (by decide +kernel) rfl
theorem ki_Things_namesOf : Cond.instanceMethod y_Things_namesOf ∈ gw := in_gw 524 (by decide +kernel) rfl
theorem kl_Things_namesOf : Cond.selects R_Things y_Things_namesOf y_Things_namesOf ∈ gw := in_gw 525 (by decide +kernel) rfl
theorem kc_Things_addName : Cond.code y_Things_addName b_Things_addName 3 (some .int) ∈ gw := in_gw 530 (by decide +kernel) rfl
theorem ki_Things_addName : Cond.instanceMethod y_Things_addName ∈ gw := in_gw 528 (by decide +kernel) rfl
theorem kl_Things_addName : Cond.selects R_Things y_Things_addName y_Things_addName ∈ gw := in_gw 529 (by decide +kernel) rfl
theorem kc_G_name : Cond.code y_G_name b_G_name 3 (some .int) ∈ gw := in_gw 517 (by decide +kernel) rfl
theorem ki_G_name : Cond.instanceMethod y_G_name ∈ gw := in_gw 515 (by decide +kernel) rfl
theorem kl_G_name : Cond.selects R_G y_G_name y_G_name ∈ gw := in_gw 516 (by decide +kernel) rfl
theorem kc_G_flags : Cond.code y_G_flags b_G_flags 3 (some .int) ∈ gw := in_gw 536 (by decide +kernel) rfl
theorem ki_G_flags : Cond.instanceMethod y_G_flags ∈ gw := in_gw 534 (by decide +kernel) rfl
theorem kl_G_flags : Cond.selects R_G y_G_flags y_G_flags ∈ gw := in_gw 535 (by decide +kernel) rfl
theorem kc_Values_indexOf : Cond.code y_Values_indexOf b_Values_indexOf 4 (some .int) ∈ gw := in_gw 549 (by decide +kernel) rfl
theorem ki_Values_indexOf : Cond.instanceMethod y_Values_indexOf ∈ gw := in_gw 548 (by decide +kernel) rfl
theorem kl_Values_indexOf : Cond.selects R_Values y_Values_indexOf y_Values_indexOf ∈ gw := in_gw 2 (by decide +kernel) rfl
theorem kc_Values_find : Cond.code y_Values_find b_Values_find 3 (some .int) ∈ gw := in_gw 545 (by decide +kernel) rfl
theorem ki_Values_find : Cond.instanceMethod y_Values_find ∈ gw := in_gw 543 (by decide +kernel) rfl
theorem kl_Values_find : Cond.selects R_Values y_Values_find y_Values_find ∈ gw := in_gw 544 (by decide +kernel) rfl
theorem kc_Row_put : Cond.code y_Row_put b_Row_put 3 none ∈ gw := in_gw 564 (by decide +kernel) rfl
theorem ki_Row_put : Cond.instanceMethod y_Row_put ∈ gw := in_gw 562 (by decide +kernel) rfl
theorem kl_Row_put : Cond.selects R_Row y_Row_put y_Row_put ∈ gw := in_gw 563 (by decide +kernel) rfl
theorem kc_Values_count : Cond.code y_Values_count b_Values_count 1 (some .int) ∈ gw := in_gw 555 (by decide +kernel) rfl
theorem ki_Values_count : Cond.instanceMethod y_Values_count ∈ gw := in_gw 553 (by decide +kernel) rfl
theorem kl_Values_count : Cond.selects R_Values y_Values_count y_Values_count ∈ gw := in_gw 554 (by decide +kernel) rfl
theorem kc_Values_put : Cond.code y_Values_put b_Values_put 5 (some .int) ∈ gw := in_gw 559 (by decide +kernel) rfl
theorem ki_Values_put : Cond.instanceMethod y_Values_put ∈ gw := in_gw 557 (by decide +kernel) rfl
theorem kl_Values_put : Cond.selects R_Values y_Values_put y_Values_put ∈ gw := in_gw 558 (by decide +kernel) rfl
theorem kc_G_custom : Cond.code y_G_custom b_G_custom 5 (some .int) ∈ gw := in_gw 541 (by decide +kernel) rfl
theorem ki_G_custom : Cond.instanceMethod y_G_custom ∈ gw := in_gw 539 (by decide +kernel) rfl
theorem kl_G_custom : Cond.selects R_G y_G_custom y_G_custom ∈ gw := in_gw 540 (by decide +kernel) rfl
theorem kc_G_isWord : Cond.code y_G_isWord b_G_isWord 1 (some .boolean) ∈ gw := in_gw 572 (by decide +kernel) rfl
theorem ks_G_isWord : Cond.static y_G_isWord ∈ gw := in_gw 571 (by decide +kernel) rfl
theorem kc_G_word : Cond.code y_G_word b_G_word 2 (some .int) ∈ gw := in_gw 569 (by decide +kernel) rfl
theorem ki_G_word : Cond.instanceMethod y_G_word ∈ gw := in_gw 567 (by decide +kernel) rfl
theorem kl_G_word : Cond.selects R_G y_G_word y_G_word ∈ gw := in_gw 568 (by decide +kernel) rfl
theorem kc_Row_empty : Cond.code y_Row_empty b_Row_empty 1 none ∈ gw := in_gw 582 (by decide +kernel) rfl
theorem ki_Row_empty : Cond.instanceMethod y_Row_empty ∈ gw := in_gw 580 (by decide +kernel) rfl
theorem kl_Row_empty : Cond.selects R_Row y_Row_empty y_Row_empty ∈ gw := in_gw 581 (by decide +kernel) rfl
theorem kc_G_clear : Cond.code y_G_clear b_G_clear 2 (some .int) ∈ gw := in_gw 578 (by decide +kernel) rfl
theorem ki_G_clear : Cond.instanceMethod y_G_clear ∈ gw := in_gw 576 (by decide +kernel) rfl
theorem kl_G_clear : Cond.selects R_G y_G_clear y_G_clear ∈ gw := in_gw 577 (by decide +kernel) rfl
theorem kc_Things_namedOf : Cond.code y_Things_namedOf b_Things_namedOf 9 (some .long) ∈ gw := in_gw 600 (by decide +kernel) rfl
theorem ki_Things_namedOf : Cond.instanceMethod y_Things_namedOf ∈ gw := in_gw 598 (by decide +kernel) rfl
theorem kl_Things_namedOf : Cond.selects R_Things y_Things_namedOf y_Things_namedOf ∈ gw := in_gw 599 (by decide +kernel) rfl
theorem kc_Phrase_find : Cond.code y_Phrase_find b_Phrase_find 6 (some .boolean) ∈ gw := in_gw 594 (by decide +kernel) rfl
theorem ki_Phrase_find : Cond.instanceMethod y_Phrase_find ∈ gw := in_gw 592 (by decide +kernel) rfl
theorem kl_Phrase_find : Cond.selects R_Phrase y_Phrase_find y_Phrase_find ∈ gw := in_gw 593 (by decide +kernel) rfl
theorem kc_JLong_bitCount : Cond.code y_JLong_bitCount b_JLong_bitCount 2 (some .int) ∈ gw := in_gw 603 (by decide +kernel) rfl
theorem ks_JLong_bitCount : Cond.static y_JLong_bitCount ∈ gw := in_gw 602 (by decide +kernel) rfl
theorem kc_Row_dropFirst : Cond.code y_Row_dropFirst b_Row_dropFirst 4 none ∈ gw := in_gw 611 (by decide +kernel) rfl
theorem ki_Row_dropFirst : Cond.instanceMethod y_Row_dropFirst ∈ gw := in_gw 609 (by decide +kernel) rfl
theorem kl_Row_dropFirst : Cond.selects R_Row y_Row_dropFirst y_Row_dropFirst ∈ gw := in_gw 610 (by decide +kernel) rfl
theorem kc_Things_firstOf : Cond.code y_Things_firstOf b_Things_firstOf 4 (some .int) ∈ gw := in_gw 618 (by decide +kernel) rfl
theorem ki_Things_firstOf : Cond.instanceMethod y_Things_firstOf ∈ gw := in_gw 616 (by decide +kernel) rfl
theorem kl_Things_firstOf : Cond.selects R_Things y_Things_firstOf y_Things_firstOf ∈ gw := in_gw 617 (by decide +kernel) rfl
theorem kc_G_takeOrder : Cond.code y_G_takeOrder b_G_takeOrder 3 (some .int) ∈ gw := in_gw 590 (by decide +kernel) rfl
theorem ki_G_takeOrder : Cond.instanceMethod y_G_takeOrder ∈ gw := in_gw 589 (by decide +kernel) rfl
theorem kl_G_takeOrder : Cond.selects R_G y_G_takeOrder y_G_takeOrder ∈ gw := in_gw 3 (by decide +kernel) rfl
theorem kc_G_isJoin : Cond.code y_G_isJoin b_G_isJoin 1 (some .boolean) ∈ gw := in_gw 629 (by decide +kernel) rfl
theorem ks_G_isJoin : Cond.static y_G_isJoin ∈ gw := in_gw 628 (by decide +kernel) rfl
theorem kc_G_endsCommand : Cond.code y_G_endsCommand b_G_endsCommand 3 (some .boolean) ∈ gw := in_gw 626 (by decide +kernel) rfl
theorem ki_G_endsCommand : Cond.instanceMethod y_G_endsCommand ∈ gw := in_gw 625 (by decide +kernel) rfl
theorem kl_G_endsCommand : Cond.selects R_G y_G_endsCommand y_G_endsCommand ∈ gw := in_gw 5 (by decide +kernel) rfl
theorem kc_G_takeCommand : Cond.code y_G_takeCommand b_G_takeCommand 2 none ∈ gw := in_gw 622 (by decide +kernel) rfl
theorem ki_G_takeCommand : Cond.instanceMethod y_G_takeCommand ∈ gw := in_gw 621 (by decide +kernel) rfl
theorem kl_G_takeCommand : Cond.selects R_G y_G_takeCommand y_G_takeCommand ∈ gw := in_gw 4 (by decide +kernel) rfl
theorem kc_Row_become : Cond.code y_Row_become b_Row_become 3 none ∈ gw := in_gw 638 (by decide +kernel) rfl
theorem ki_Row_become : Cond.instanceMethod y_Row_become ∈ gw := in_gw 636 (by decide +kernel) rfl
theorem kl_Row_become : Cond.selects R_Row y_Row_become y_Row_become ∈ gw := in_gw 637 (by decide +kernel) rfl
theorem kc_G_chooseCommand : Cond.code y_G_chooseCommand b_G_chooseCommand 4 (some .int) ∈ gw := in_gw 633 (by decide +kernel) rfl
theorem ki_G_chooseCommand : Cond.instanceMethod y_G_chooseCommand ∈ gw := in_gw 632 (by decide +kernel) rfl
theorem kl_G_chooseCommand : Cond.selects R_G y_G_chooseCommand y_G_chooseCommand ∈ gw := in_gw 6 (by decide +kernel) rfl
theorem kc_Report_begin : Cond.code y_Report_begin b_Report_begin 1 none ∈ gw := in_gw 648 (by decide +kernel) rfl
theorem ki_Report_begin : Cond.instanceMethod y_Report_begin ∈ gw := in_gw 646 (by decide +kernel) rfl
theorem kl_Report_begin : Cond.selects R_Report y_Report_begin y_Report_begin ∈ gw := in_gw 647 (by decide +kernel) rfl
theorem kc_Report_fail : Cond.code y_Report_fail b_Report_fail 4 none ∈ gw := in_gw 785 (by decide +kernel) rfl
theorem ki_Report_fail : Cond.instanceMethod y_Report_fail ∈ gw := in_gw 783 (by decide +kernel) rfl
theorem kl_Report_fail : Cond.selects R_Report y_Report_fail y_Report_fail ∈ gw := in_gw 784 (by decide +kernel) rfl
theorem kc_Lines_count : Cond.code y_Lines_count b_Lines_count 1 (some .int) ∈ gw := in_gw 653 (by decide +kernel) rfl
theorem ki_Lines_count : Cond.instanceMethod y_Lines_count ∈ gw := in_gw 651 (by decide +kernel) rfl
theorem kl_Lines_count : Cond.selects R_Lines y_Lines_count y_Lines_count ∈ gw := in_gw 652 (by decide +kernel) rfl
theorem kc_Report_isAsked : Cond.code y_Report_isAsked b_Report_isAsked 1 (some .boolean) ∈ gw := in_gw 791 (by decide +kernel) rfl
theorem ki_Report_isAsked : Cond.instanceMethod y_Report_isAsked ∈ gw := in_gw 789 (by decide +kernel) rfl
theorem kl_Report_isAsked : Cond.selects R_Report y_Report_isAsked y_Report_isAsked ∈ gw := in_gw 790 (by decide +kernel) rfl
theorem kc_Lines_verbOf : Cond.code y_Lines_verbOf b_Lines_verbOf 2 (some .int) ∈ gw := in_gw 657 (by decide +kernel) rfl
theorem ki_Lines_verbOf : Cond.instanceMethod y_Lines_verbOf ∈ gw := in_gw 655 (by decide +kernel) rfl
theorem kl_Lines_verbOf : Cond.selects R_Lines y_Lines_verbOf y_Lines_verbOf ∈ gw := in_gw 656 (by decide +kernel) rfl
theorem kc_Slot_empty : Cond.code y_Slot_empty b_Slot_empty 1 none ∈ gw := in_gw 669 (by decide +kernel) rfl
theorem ki_Slot_empty : Cond.instanceMethod y_Slot_empty ∈ gw := in_gw 667 (by decide +kernel) rfl
theorem kl_Slot_empty : Cond.selects R_Slot y_Slot_empty y_Slot_empty ∈ gw := in_gw 668 (by decide +kernel) rfl
theorem kc_Trial_begin : Cond.code y_Trial_begin b_Trial_begin 2 none ∈ gw := in_gw 665 (by decide +kernel) rfl
theorem ki_Trial_begin : Cond.instanceMethod y_Trial_begin ∈ gw := in_gw 664 (by decide +kernel) rfl
theorem kl_Trial_begin : Cond.selects R_Trial y_Trial_begin y_Trial_begin ∈ gw := in_gw 8 (by decide +kernel) rfl
theorem kc_G_isOfOneThing : Cond.code y_G_isOfOneThing b_G_isOfOneThing 1 (some .boolean) ∈ gw := in_gw 734 (by decide +kernel) rfl
theorem ks_G_isOfOneThing : Cond.static y_G_isOfOneThing ∈ gw := in_gw 733 (by decide +kernel) rfl
theorem kc_Trial_fail : Cond.code y_Trial_fail b_Trial_fail 3 none ∈ gw := in_gw 686 (by decide +kernel) rfl
theorem ki_Trial_fail : Cond.instanceMethod y_Trial_fail ∈ gw := in_gw 685 (by decide +kernel) rfl
theorem kl_Trial_fail : Cond.selects R_Trial y_Trial_fail y_Trial_fail ∈ gw := in_gw 10 (by decide +kernel) rfl
theorem kc_Trial_takeOut : Cond.code y_Trial_takeOut b_Trial_takeOut 4 none ∈ gw := in_gw 772 (by decide +kernel) rfl
theorem ki_Trial_takeOut : Cond.instanceMethod y_Trial_takeOut ∈ gw := in_gw 771 (by decide +kernel) rfl
theorem kl_Trial_takeOut : Cond.selects R_Trial y_Trial_takeOut y_Trial_takeOut ∈ gw := in_gw 22 (by decide +kernel) rfl
theorem kc_Row_addThings : Cond.code y_Row_addThings b_Row_addThings 4 none ∈ gw := in_gw 751 (by decide +kernel) rfl
theorem ki_Row_addThings : Cond.instanceMethod y_Row_addThings ∈ gw := in_gw 749 (by decide +kernel) rfl
theorem kl_Row_addThings : Cond.selects R_Row y_Row_addThings y_Row_addThings ∈ gw := in_gw 750 (by decide +kernel) rfl
theorem kc_Trial_finish : Cond.code y_Trial_finish b_Trial_finish 1 none ∈ gw := in_gw 768 (by decide +kernel) rfl
theorem ki_Trial_finish : Cond.instanceMethod y_Trial_finish ∈ gw := in_gw 767 (by decide +kernel) rfl
theorem kl_Trial_finish : Cond.selects R_Trial y_Trial_finish y_Trial_finish ∈ gw := in_gw 21 (by decide +kernel) rfl
theorem kc_Trial_openSlot : Cond.code y_Trial_openSlot b_Trial_openSlot 3 (some (.object R_Slot)) ∈ gw := in_gw 707 (by decide +kernel) rfl
theorem ki_Trial_openSlot : Cond.instanceMethod y_Trial_openSlot ∈ gw := in_gw 706 (by decide +kernel) rfl
theorem kl_Trial_openSlot : Cond.selects R_Trial y_Trial_openSlot y_Trial_openSlot ∈ gw := in_gw 12 (by decide +kernel) rfl
theorem kc_Things_countedFor : Cond.code y_Things_countedFor b_Things_countedFor 2 (some .long) ∈ gw := in_gw 747 (by decide +kernel) rfl
theorem ki_Things_countedFor : Cond.instanceMethod y_Things_countedFor ∈ gw := in_gw 745 (by decide +kernel) rfl
theorem kl_Things_countedFor : Cond.selects R_Things y_Things_countedFor y_Things_countedFor ∈ gw := in_gw 746 (by decide +kernel) rfl
theorem kc_Trial_findOne : Cond.code y_Trial_findOne b_Trial_findOne 4 (some .long) ∈ gw := in_gw 742 (by decide +kernel) rfl
theorem ki_Trial_findOne : Cond.instanceMethod y_Trial_findOne ∈ gw := in_gw 741 (by decide +kernel) rfl
theorem kl_Trial_findOne : Cond.selects R_Trial y_Trial_findOne y_Trial_findOne ∈ gw := in_gw 18 (by decide +kernel) rfl
theorem kc_Trial_takeList : Cond.code y_Trial_takeList b_Trial_takeList 6 none ∈ gw := in_gw 764 (by decide +kernel) rfl
theorem ki_Trial_takeList : Cond.instanceMethod y_Trial_takeList ∈ gw := in_gw 763 (by decide +kernel) rfl
theorem kl_Trial_takeList : Cond.selects R_Trial y_Trial_takeList y_Trial_takeList ∈ gw := in_gw 20 (by decide +kernel) rfl
theorem kc_Things_allFor : Cond.code y_Things_allFor b_Things_allFor 4 (some .long) ∈ gw := in_gw 760 (by decide +kernel) rfl
theorem ki_Things_allFor : Cond.instanceMethod y_Things_allFor ∈ gw := in_gw 758 (by decide +kernel) rfl
theorem kl_Things_allFor : Cond.selects R_Things y_Things_allFor y_Things_allFor ∈ gw := in_gw 759 (by decide +kernel) rfl
theorem kc_Trial_takeAll : Cond.code y_Trial_takeAll b_Trial_takeAll 5 none ∈ gw := in_gw 756 (by decide +kernel) rfl
theorem ki_Trial_takeAll : Cond.instanceMethod y_Trial_takeAll ∈ gw := in_gw 755 (by decide +kernel) rfl
theorem kl_Trial_takeAll : Cond.selects R_Trial y_Trial_takeAll y_Trial_takeAll ∈ gw := in_gw 19 (by decide +kernel) rfl
theorem kc_Trial_takeOne : Cond.code y_Trial_takeOne b_Trial_takeOne 3 none ∈ gw := in_gw 738 (by decide +kernel) rfl
theorem ki_Trial_takeOne : Cond.instanceMethod y_Trial_takeOne ∈ gw := in_gw 737 (by decide +kernel) rfl
theorem kl_Trial_takeOne : Cond.selects R_Trial y_Trial_takeOne y_Trial_takeOne ∈ gw := in_gw 17 (by decide +kernel) rfl
theorem kc_Lines_ofAt : Cond.code y_Lines_ofAt b_Lines_ofAt 3 (some .int) ∈ gw := in_gw 694 (by decide +kernel) rfl
theorem ki_Lines_ofAt : Cond.instanceMethod y_Lines_ofAt ∈ gw := in_gw 692 (by decide +kernel) rfl
theorem kl_Lines_ofAt : Cond.selects R_Lines y_Lines_ofAt y_Lines_ofAt ∈ gw := in_gw 693 (by decide +kernel) rfl
theorem kc_Trial_takeCustom : Cond.code y_Trial_takeCustom b_Trial_takeCustom 3 none ∈ gw := in_gw 730 (by decide +kernel) rfl
theorem ki_Trial_takeCustom : Cond.instanceMethod y_Trial_takeCustom ∈ gw := in_gw 729 (by decide +kernel) rfl
theorem kl_Trial_takeCustom : Cond.selects R_Trial y_Trial_takeCustom y_Trial_takeCustom ∈ gw := in_gw 16 (by decide +kernel) rfl
theorem kc_Trial_takeNumber : Cond.code y_Trial_takeNumber b_Trial_takeNumber 2 none ∈ gw := in_gw 726 (by decide +kernel) rfl
theorem ki_Trial_takeNumber : Cond.instanceMethod y_Trial_takeNumber ∈ gw := in_gw 725 (by decide +kernel) rfl
theorem kl_Trial_takeNumber : Cond.selects R_Trial y_Trial_takeNumber y_Trial_takeNumber ∈ gw := in_gw 15 (by decide +kernel) rfl
theorem kc_Lines_takes : Cond.code y_Lines_takes b_Lines_takes 6 (some .boolean) ∈ gw := in_gw 717 (by decide +kernel) rfl
theorem ki_Lines_takes : Cond.instanceMethod y_Lines_takes ∈ gw := in_gw 715 (by decide +kernel) rfl
theorem kl_Lines_takes : Cond.selects R_Lines y_Lines_takes y_Lines_takes ∈ gw := in_gw 716 (by decide +kernel) rfl
theorem kc_Trial_takeTopic : Cond.code y_Trial_takeTopic b_Trial_takeTopic 4 none ∈ gw := in_gw 722 (by decide +kernel) rfl
theorem ki_Trial_takeTopic : Cond.instanceMethod y_Trial_takeTopic ∈ gw := in_gw 721 (by decide +kernel) rfl
theorem kl_Trial_takeTopic : Cond.selects R_Trial y_Trial_takeTopic y_Trial_takeTopic ∈ gw := in_gw 14 (by decide +kernel) rfl
theorem kc_Trial_takeWord : Cond.code y_Trial_takeWord b_Trial_takeWord 2 none ∈ gw := in_gw 712 (by decide +kernel) rfl
theorem ki_Trial_takeWord : Cond.instanceMethod y_Trial_takeWord ∈ gw := in_gw 711 (by decide +kernel) rfl
theorem kl_Trial_takeWord : Cond.selects R_Trial y_Trial_takeWord y_Trial_takeWord ∈ gw := in_gw 13 (by decide +kernel) rfl
theorem kc_Lines_slotFrom : Cond.code y_Lines_slotFrom b_Lines_slotFrom 4 (some .int) ∈ gw := in_gw 682 (by decide +kernel) rfl
theorem ki_Lines_slotFrom : Cond.instanceMethod y_Lines_slotFrom ∈ gw := in_gw 680 (by decide +kernel) rfl
theorem kl_Lines_slotFrom : Cond.selects R_Lines y_Lines_slotFrom y_Lines_slotFrom ∈ gw := in_gw 681 (by decide +kernel) rfl
theorem kc_Things_fillersFor : Cond.code y_Things_fillersFor b_Things_fillersFor 2 (some .long) ∈ gw := in_gw 700 (by decide +kernel) rfl
theorem ki_Things_fillersFor : Cond.instanceMethod y_Things_fillersFor ∈ gw := in_gw 698 (by decide +kernel) rfl
theorem kl_Things_fillersFor : Cond.selects R_Things y_Things_fillersFor y_Things_fillersFor ∈ gw := in_gw 699 (by decide +kernel) rfl
theorem kc_Trial_fillFrom : Cond.code y_Trial_fillFrom b_Trial_fillFrom 6 (some .boolean) ∈ gw := in_gw 690 (by decide +kernel) rfl
theorem ki_Trial_fillFrom : Cond.instanceMethod y_Trial_fillFrom ∈ gw := in_gw 689 (by decide +kernel) rfl
theorem kl_Trial_fillFrom : Cond.selects R_Trial y_Trial_fillFrom y_Trial_fillFrom ∈ gw := in_gw 11 (by decide +kernel) rfl
theorem kc_Trial_fillOrAsk : Cond.code y_Trial_fillOrAsk b_Trial_fillOrAsk 4 none ∈ gw := in_gw 678 (by decide +kernel) rfl
theorem ki_Trial_fillOrAsk : Cond.instanceMethod y_Trial_fillOrAsk ∈ gw := in_gw 677 (by decide +kernel) rfl
theorem kl_Trial_fillOrAsk : Cond.selects R_Trial y_Trial_fillOrAsk y_Trial_fillOrAsk ∈ gw := in_gw 9 (by decide +kernel) rfl
theorem kc_Trial_tryLine : Cond.code y_Trial_tryLine b_Trial_tryLine 4 none ∈ gw := in_gw 661 (by decide +kernel) rfl
theorem ki_Trial_tryLine : Cond.instanceMethod y_Trial_tryLine ∈ gw := in_gw 659 (by decide +kernel) rfl
theorem kl_Trial_tryLine : Cond.selects R_Trial y_Trial_tryLine y_Trial_tryLine ∈ gw := in_gw 660 (by decide +kernel) rfl
theorem kc_Lines_actionOf : Cond.code y_Lines_actionOf b_Lines_actionOf 2 (some .int) ∈ gw := in_gw 776 (by decide +kernel) rfl
theorem ki_Lines_actionOf : Cond.instanceMethod y_Lines_actionOf ∈ gw := in_gw 774 (by decide +kernel) rfl
theorem kl_Lines_actionOf : Cond.selects R_Lines y_Lines_actionOf y_Lines_actionOf ∈ gw := in_gw 775 (by decide +kernel) rfl
theorem kc_Report_note : Cond.code y_Report_note b_Report_note 3 none ∈ gw := in_gw 780 (by decide +kernel) rfl
theorem ki_Report_note : Cond.instanceMethod y_Report_note ∈ gw := in_gw 778 (by decide +kernel) rfl
theorem kl_Report_note : Cond.selects R_Report y_Report_note y_Report_note ∈ gw := in_gw 779 (by decide +kernel) rfl
theorem kc_G_tryCommand : Cond.code y_G_tryCommand b_G_tryCommand 3 (some .int) ∈ gw := in_gw 644 (by decide +kernel) rfl
theorem ki_G_tryCommand : Cond.instanceMethod y_G_tryCommand ∈ gw := in_gw 643 (by decide +kernel) rfl
theorem kl_G_tryCommand : Cond.selects R_G y_G_tryCommand y_G_tryCommand ∈ gw := in_gw 7 (by decide +kernel) rfl
theorem kc_G_parse : Cond.code y_G_parse b_G_parse 3 (some .int) ∈ gw := in_gw 586 (by decide +kernel) rfl
theorem ki_G_parse : Cond.instanceMethod y_G_parse ∈ gw := in_gw 584 (by decide +kernel) rfl
theorem kl_G_parse : Cond.selects R_G y_G_parse y_G_parse ∈ gw := in_gw 585 (by decide +kernel) rfl
theorem kc_Row_insert : Cond.code y_Row_insert b_Row_insert 4 none ∈ gw := in_gw 799 (by decide +kernel) rfl
theorem ki_Row_insert : Cond.instanceMethod y_Row_insert ∈ gw := in_gw 797 (by decide +kernel) rfl
theorem kl_Row_insert : Cond.selects R_Row y_Row_insert y_Row_insert ∈ gw := in_gw 798 (by decide +kernel) rfl
theorem kc_G_answer : Cond.code y_G_answer b_G_answer 4 (some .int) ∈ gw := in_gw 795 (by decide +kernel) rfl
theorem ki_G_answer : Cond.instanceMethod y_G_answer ∈ gw := in_gw 793 (by decide +kernel) rfl
theorem kl_G_answer : Cond.selects R_G y_G_answer y_G_answer ∈ gw := in_gw 794 (by decide +kernel) rfl
theorem kc_Lines_isReversed : Cond.code y_Lines_isReversed b_Lines_isReversed 2 (some .boolean) ∈ gw := in_gw 807 (by decide +kernel) rfl
theorem ki_Lines_isReversed : Cond.instanceMethod y_Lines_isReversed ∈ gw := in_gw 805 (by decide +kernel) rfl
theorem kl_Lines_isReversed : Cond.selects R_Lines y_Lines_isReversed y_Lines_isReversed ∈ gw := in_gw 806 (by decide +kernel) rfl
theorem kc_Trial_slotsTaken : Cond.code y_Trial_slotsTaken b_Trial_slotsTaken 1 (some .int) ∈ gw := in_gw 811 (by decide +kernel) rfl
theorem ki_Trial_slotsTaken : Cond.instanceMethod y_Trial_slotsTaken ∈ gw := in_gw 809 (by decide +kernel) rfl
theorem kl_Trial_slotsTaken : Cond.selects R_Trial y_Trial_slotsTaken y_Trial_slotsTaken ∈ gw := in_gw 810 (by decide +kernel) rfl
theorem kc_G_object : Cond.code y_G_object b_G_object 6 (some .int) ∈ gw := in_gw 803 (by decide +kernel) rfl
theorem ki_G_object : Cond.instanceMethod y_G_object ∈ gw := in_gw 801 (by decide +kernel) rfl
theorem kl_G_object : Cond.selects R_G y_G_object y_G_object ∈ gw := in_gw 802 (by decide +kernel) rfl
theorem kc_G_asked : Cond.code y_G_asked b_G_asked 2 (some .int) ∈ gw := in_gw 815 (by decide +kernel) rfl
theorem ki_G_asked : Cond.instanceMethod y_G_asked ∈ gw := in_gw 813 (by decide +kernel) rfl
theorem kl_G_asked : Cond.selects R_G y_G_asked y_G_asked ∈ gw := in_gw 814 (by decide +kernel) rfl
theorem kc_G_filled : Cond.code y_G_filled b_G_filled 2 (some .int) ∈ gw := in_gw 819 (by decide +kernel) rfl
theorem ki_G_filled : Cond.instanceMethod y_G_filled ∈ gw := in_gw 817 (by decide +kernel) rfl
theorem kl_G_filled : Cond.selects R_G y_G_filled y_G_filled ∈ gw := in_gw 818 (by decide +kernel) rfl
theorem kc_Verbs_count : Cond.code y_Verbs_count b_Verbs_count 1 (some .int) ∈ gw := in_gw 827 (by decide +kernel) rfl
theorem ki_Verbs_count : Cond.instanceMethod y_Verbs_count ∈ gw := in_gw 825 (by decide +kernel) rfl
theorem kl_Verbs_count : Cond.selects R_Verbs y_Verbs_count y_Verbs_count ∈ gw := in_gw 826 (by decide +kernel) rfl
theorem kc_Things_count : Cond.code y_Things_count b_Things_count 1 (some .int) ∈ gw := in_gw 831 (by decide +kernel) rfl
theorem ki_Things_count : Cond.instanceMethod y_Things_count ∈ gw := in_gw 829 (by decide +kernel) rfl
theorem kl_Things_count : Cond.selects R_Things y_Things_count y_Things_count ∈ gw := in_gw 830 (by decide +kernel) rfl
theorem kc_G_told : Cond.code y_G_told b_G_told 2 (some .int) ∈ gw := in_gw 823 (by decide +kernel) rfl
theorem ki_G_told : Cond.instanceMethod y_G_told ∈ gw := in_gw 821 (by decide +kernel) rfl
theorem kl_G_told : Cond.selects R_G y_G_told y_G_told ∈ gw := in_gw 822 (by decide +kernel) rfl
theorem kc_G_trace : Cond.code y_G_trace b_G_trace 3 (some .int) ∈ gw := in_gw 835 (by decide +kernel) rfl
theorem ki_G_trace : Cond.instanceMethod y_G_trace ∈ gw := in_gw 833 (by decide +kernel) rfl
theorem kl_G_trace : Cond.selects R_G y_G_trace y_G_trace ∈ gw := in_gw 834 (by decide +kernel) rfl
theorem kc_G_said : Cond.code y_G_said b_G_said 3 (some .int) ∈ gw := in_gw 839 (by decide +kernel) rfl
theorem ki_G_said : Cond.instanceMethod y_G_said ∈ gw := in_gw 837 (by decide +kernel) rfl
theorem kl_G_said : Cond.selects R_G y_G_said y_G_said ∈ gw := in_gw 838 (by decide +kernel) rfl
theorem kc_M_within : Cond.code y_M_within b_M_within 3 (some .boolean) ∈ gw := in_gw 1025 (by decide +kernel) rfl
theorem ks_M_within : Cond.static y_M_within ∈ gw := in_gw 1024 (by decide +kernel) rfl
theorem kc_M_isPlain : Cond.code y_M_isPlain b_M_isPlain 1 (some .boolean) ∈ gw := in_gw 1022 (by decide +kernel) rfl
theorem ks_M_isPlain : Cond.static y_M_isPlain ∈ gw := in_gw 1021 (by decide +kernel) rfl
theorem kc_M_verbBy : Cond.code y_M_verbBy b_M_verbBy 3 (some .int) ∈ gw := in_gw 1029 (by decide +kernel) rfl
theorem ki_M_verbBy : Cond.instanceMethod y_M_verbBy ∈ gw := in_gw 1028 (by decide +kernel) rfl
theorem kl_M_verbBy : Cond.selects R_M y_M_verbBy y_M_verbBy ∈ gw := in_gw 23 (by decide +kernel) rfl
theorem kc_M_isOfVerb : Cond.code y_M_isOfVerb b_M_isOfVerb 3 none ∈ gw := in_gw 1033 (by decide +kernel) rfl
theorem ki_M_isOfVerb : Cond.instanceMethod y_M_isOfVerb ∈ gw := in_gw 1032 (by decide +kernel) rfl
theorem kl_M_isOfVerb : Cond.selects R_M y_M_isOfVerb y_M_isOfVerb ∈ gw := in_gw 24 (by decide +kernel) rfl
theorem kc_M_verb : Cond.code y_M_verb b_M_verb 2 (some .int) ∈ gw := in_gw 1019 (by decide +kernel) rfl
theorem ki_M_verb : Cond.instanceMethod y_M_verb ∈ gw := in_gw 1017 (by decide +kernel) rfl
theorem kl_M_verb : Cond.selects R_M y_M_verb y_M_verb ∈ gw := in_gw 1018 (by decide +kernel) rfl
theorem kc_M_like : Cond.code y_M_like b_M_like 5 (some .int) ∈ gw := in_gw 1037 (by decide +kernel) rfl
theorem ki_M_like : Cond.instanceMethod y_M_like ∈ gw := in_gw 1035 (by decide +kernel) rfl
theorem kl_M_like : Cond.selects R_M y_M_like y_M_like ∈ gw := in_gw 1036 (by decide +kernel) rfl
theorem kc_M_line : Cond.code y_M_line b_M_line 4 (some .int) ∈ gw := in_gw 1041 (by decide +kernel) rfl
theorem ki_M_line : Cond.instanceMethod y_M_line ∈ gw := in_gw 1039 (by decide +kernel) rfl
theorem kl_M_line : Cond.selects R_M y_M_line y_M_line ∈ gw := in_gw 1040 (by decide +kernel) rfl
theorem kc_M_isSlot : Cond.code y_M_isSlot b_M_isSlot 1 (some .boolean) ∈ gw := in_gw 1048 (by decide +kernel) rfl
theorem ks_M_isSlot : Cond.static y_M_isSlot ∈ gw := in_gw 1047 (by decide +kernel) rfl
theorem kc_M_token : Cond.code y_M_token b_M_token 8 (some .int) ∈ gw := in_gw 1045 (by decide +kernel) rfl
theorem ki_M_token : Cond.instanceMethod y_M_token ∈ gw := in_gw 1043 (by decide +kernel) rfl
theorem kl_M_token : Cond.selects R_M y_M_token y_M_token ∈ gw := in_gw 1044 (by decide +kernel) rfl
theorem kc_M_thing : Cond.code y_M_thing b_M_thing 2 (some .int) ∈ gw := in_gw 1052 (by decide +kernel) rfl
theorem ki_M_thing : Cond.instanceMethod y_M_thing ∈ gw := in_gw 1050 (by decide +kernel) rfl
theorem kl_M_thing : Cond.selects R_M y_M_thing y_M_thing ∈ gw := in_gw 1051 (by decide +kernel) rfl
theorem kc_M_hasName : Cond.code y_M_hasName b_M_hasName 5 (some .boolean) ∈ gw := in_gw 1060 (by decide +kernel) rfl
theorem ki_M_hasName : Cond.instanceMethod y_M_hasName ∈ gw := in_gw 1059 (by decide +kernel) rfl
theorem kl_M_hasName : Cond.selects R_M y_M_hasName y_M_hasName ∈ gw := in_gw 25 (by decide +kernel) rfl
theorem kc_M_name : Cond.code y_M_name b_M_name 3 (some .int) ∈ gw := in_gw 1056 (by decide +kernel) rfl
theorem ki_M_name : Cond.instanceMethod y_M_name ∈ gw := in_gw 1054 (by decide +kernel) rfl
theorem kl_M_name : Cond.selects R_M y_M_name y_M_name ∈ gw := in_gw 1055 (by decide +kernel) rfl
theorem kc_M_flags : Cond.code y_M_flags b_M_flags 4 (some .int) ∈ gw := in_gw 1064 (by decide +kernel) rfl
theorem ki_M_flags : Cond.instanceMethod y_M_flags ∈ gw := in_gw 1062 (by decide +kernel) rfl
theorem kl_M_flags : Cond.selects R_M y_M_flags y_M_flags ∈ gw := in_gw 1063 (by decide +kernel) rfl
theorem kc_M_pairOf : Cond.code y_M_pairOf b_M_pairOf 4 (some .int) ∈ gw := in_gw 1072 (by decide +kernel) rfl
theorem ki_M_pairOf : Cond.instanceMethod y_M_pairOf ∈ gw := in_gw 1071 (by decide +kernel) rfl
theorem kl_M_pairOf : Cond.selects R_M y_M_pairOf y_M_pairOf ∈ gw := in_gw 26 (by decide +kernel) rfl
theorem kc_M_custom : Cond.code y_M_custom b_M_custom 5 (some .int) ∈ gw := in_gw 1068 (by decide +kernel) rfl
theorem ki_M_custom : Cond.instanceMethod y_M_custom ∈ gw := in_gw 1066 (by decide +kernel) rfl
theorem kl_M_custom : Cond.selects R_M y_M_custom y_M_custom ∈ gw := in_gw 1067 (by decide +kernel) rfl
theorem kc_M_isAny : Cond.code y_M_isAny b_M_isAny 1 (some .boolean) ∈ gw := in_gw 1079 (by decide +kernel) rfl
theorem ks_M_isAny : Cond.static y_M_isAny ∈ gw := in_gw 1078 (by decide +kernel) rfl
theorem kc_M_word : Cond.code y_M_word b_M_word 2 (some .int) ∈ gw := in_gw 1076 (by decide +kernel) rfl
theorem ki_M_word : Cond.instanceMethod y_M_word ∈ gw := in_gw 1074 (by decide +kernel) rfl
theorem kl_M_word : Cond.selects R_M y_M_word y_M_word ∈ gw := in_gw 1075 (by decide +kernel) rfl
theorem kc_M_clear : Cond.code y_M_clear b_M_clear 2 (some .int) ∈ gw := in_gw 1083 (by decide +kernel) rfl
theorem ki_M_clear : Cond.instanceMethod y_M_clear ∈ gw := in_gw 1081 (by decide +kernel) rfl
theorem kl_M_clear : Cond.selects R_M y_M_clear y_M_clear ∈ gw := in_gw 1082 (by decide +kernel) rfl
theorem kc_M_take : Cond.code y_M_take b_M_take 4 none ∈ gw := in_gw 1095 (by decide +kernel) rfl
theorem ki_M_take : Cond.instanceMethod y_M_take ∈ gw := in_gw 1094 (by decide +kernel) rfl
theorem kl_M_take : Cond.selects R_M y_M_take y_M_take ∈ gw := in_gw 28 (by decide +kernel) rfl
theorem kc_M_isHeld : Cond.code y_M_isHeld b_M_isHeld 2 (some .boolean) ∈ gw := in_gw 1107 (by decide +kernel) rfl
theorem ki_M_isHeld : Cond.instanceMethod y_M_isHeld ∈ gw := in_gw 1106 (by decide +kernel) rfl
theorem kl_M_isHeld : Cond.selects R_M y_M_isHeld y_M_isHeld ∈ gw := in_gw 31 (by decide +kernel) rfl
theorem kc_M_isInScope : Cond.code y_M_isInScope b_M_isInScope 2 (some .boolean) ∈ gw := in_gw 1103 (by decide +kernel) rfl
theorem ki_M_isInScope : Cond.instanceMethod y_M_isInScope ∈ gw := in_gw 1102 (by decide +kernel) rfl
theorem kl_M_isInScope : Cond.selects R_M y_M_isInScope y_M_isInScope ∈ gw := in_gw 30 (by decide +kernel) rfl
theorem kc_M_phrase : Cond.code y_M_phrase b_M_phrase 6 (some .int) ∈ gw := in_gw 1099 (by decide +kernel) rfl
theorem ki_M_phrase : Cond.instanceMethod y_M_phrase ∈ gw := in_gw 1098 (by decide +kernel) rfl
theorem kl_M_phrase : Cond.selects R_M y_M_phrase y_M_phrase ∈ gw := in_gw 29 (by decide +kernel) rfl
theorem kc_M_has : Cond.code y_M_has b_M_has 3 (some .boolean) ∈ gw := in_gw 1114 (by decide +kernel) rfl
theorem ks_M_has : Cond.static y_M_has ∈ gw := in_gw 1113 (by decide +kernel) rfl
theorem kc_M_manyOf : Cond.code y_M_manyOf b_M_manyOf 5 (some .int) ∈ gw := in_gw 1111 (by decide +kernel) rfl
theorem ki_M_manyOf : Cond.instanceMethod y_M_manyOf ∈ gw := in_gw 1110 (by decide +kernel) rfl
theorem kl_M_manyOf : Cond.selects R_M y_M_manyOf y_M_manyOf ∈ gw := in_gw 32 (by decide +kernel) rfl
theorem kc_M_thingOf : Cond.code y_M_thingOf b_M_thingOf 6 (some .int) ∈ gw := in_gw 1118 (by decide +kernel) rfl
theorem ki_M_thingOf : Cond.instanceMethod y_M_thingOf ∈ gw := in_gw 1117 (by decide +kernel) rfl
theorem kl_M_thingOf : Cond.selects R_M y_M_thingOf y_M_thingOf ∈ gw := in_gw 33 (by decide +kernel) rfl
theorem kc_M_isCreature : Cond.code y_M_isCreature b_M_isCreature 2 (some .boolean) ∈ gw := in_gw 1122 (by decide +kernel) rfl
theorem ki_M_isCreature : Cond.instanceMethod y_M_isCreature ∈ gw := in_gw 1121 (by decide +kernel) rfl
theorem kl_M_isCreature : Cond.selects R_M y_M_isCreature y_M_isCreature ∈ gw := in_gw 34 (by decide +kernel) rfl
theorem kc_M_stands : Cond.code y_M_stands b_M_stands 3 (some .boolean) ∈ gw := in_gw 1126 (by decide +kernel) rfl
theorem ki_M_stands : Cond.instanceMethod y_M_stands ∈ gw := in_gw 1125 (by decide +kernel) rfl
theorem kl_M_stands : Cond.selects R_M y_M_stands y_M_stands ∈ gw := in_gw 35 (by decide +kernel) rfl
theorem kc_M_off : Cond.code y_M_off b_M_off 3 none ∈ gw := in_gw 1130 (by decide +kernel) rfl
theorem ki_M_off : Cond.instanceMethod y_M_off ∈ gw := in_gw 1129 (by decide +kernel) rfl
theorem kl_M_off : Cond.selects R_M y_M_off y_M_off ∈ gw := in_gw 36 (by decide +kernel) rfl
theorem kc_M_order : Cond.code y_M_order b_M_order 2 none ∈ gw := in_gw 1091 (by decide +kernel) rfl
theorem ki_M_order : Cond.instanceMethod y_M_order ∈ gw := in_gw 1090 (by decide +kernel) rfl
theorem kl_M_order : Cond.selects R_M y_M_order y_M_order ∈ gw := in_gw 27 (by decide +kernel) rfl
theorem kc_M_begins : Cond.code y_M_begins b_M_begins 1 none ∈ gw := in_gw 1134 (by decide +kernel) rfl
theorem ki_M_begins : Cond.instanceMethod y_M_begins ∈ gw := in_gw 1133 (by decide +kernel) rfl
theorem kl_M_begins : Cond.selects R_M y_M_begins y_M_begins ∈ gw := in_gw 37 (by decide +kernel) rfl
theorem kc_M_fails : Cond.code y_M_fails b_M_fails 3 none ∈ gw := in_gw 1150 (by decide +kernel) rfl
theorem ki_M_fails : Cond.instanceMethod y_M_fails ∈ gw := in_gw 1149 (by decide +kernel) rfl
theorem kl_M_fails : Cond.selects R_M y_M_fails y_M_fails ∈ gw := in_gw 41 (by decide +kernel) rfl
theorem kc_M_others : Cond.code y_M_others b_M_others 2 none ∈ gw := in_gw 1203 (by decide +kernel) rfl
theorem ki_M_others : Cond.instanceMethod y_M_others ∈ gw := in_gw 1202 (by decide +kernel) rfl
theorem kl_M_others : Cond.selects R_M y_M_others y_M_others ∈ gw := in_gw 54 (by decide +kernel) rfl
theorem kc_M_slot : Cond.code y_M_slot b_M_slot 3 none ∈ gw := in_gw 1166 (by decide +kernel) rfl
theorem ki_M_slot : Cond.instanceMethod y_M_slot ∈ gw := in_gw 1165 (by decide +kernel) rfl
theorem kl_M_slot : Cond.selects R_M y_M_slot y_M_slot ∈ gw := in_gw 45 (by decide +kernel) rfl
theorem kc_M_next : Cond.code y_M_next b_M_next 4 (some .int) ∈ gw := in_gw 1170 (by decide +kernel) rfl
theorem ki_M_next : Cond.instanceMethod y_M_next ∈ gw := in_gw 1169 (by decide +kernel) rfl
theorem kl_M_next : Cond.selects R_M y_M_next y_M_next ∈ gw := in_gw 46 (by decide +kernel) rfl
theorem kc_M_isOneOf : Cond.code y_M_isOneOf b_M_isOneOf 6 (some .boolean) ∈ gw := in_gw 1178 (by decide +kernel) rfl
theorem ki_M_isOneOf : Cond.instanceMethod y_M_isOneOf ∈ gw := in_gw 1177 (by decide +kernel) rfl
theorem kl_M_isOneOf : Cond.selects R_M y_M_isOneOf y_M_isOneOf ∈ gw := in_gw 48 (by decide +kernel) rfl
theorem kc_M_takesTopic : Cond.code y_M_takesTopic b_M_takesTopic 6 (some .int) ∈ gw := in_gw 1199 (by decide +kernel) rfl
theorem ki_M_takesTopic : Cond.instanceMethod y_M_takesTopic ∈ gw := in_gw 1198 (by decide +kernel) rfl
theorem kl_M_takesTopic : Cond.selects R_M y_M_takesTopic y_M_takesTopic ∈ gw := in_gw 53 (by decide +kernel) rfl
theorem kc_M_isWorn : Cond.code y_M_isWorn b_M_isWorn 2 (some .boolean) ∈ gw := in_gw 1162 (by decide +kernel) rfl
theorem ki_M_isWorn : Cond.instanceMethod y_M_isWorn ∈ gw := in_gw 1161 (by decide +kernel) rfl
theorem kl_M_isWorn : Cond.selects R_M y_M_isWorn y_M_isWorn ∈ gw := in_gw 44 (by decide +kernel) rfl
theorem kc_M_takesOne : Cond.code y_M_takesOne b_M_takesOne 8 (some .int) ∈ gw := in_gw 1182 (by decide +kernel) rfl
theorem ki_M_takesOne : Cond.instanceMethod y_M_takesOne ∈ gw := in_gw 1181 (by decide +kernel) rfl
theorem kl_M_takesOne : Cond.selects R_M y_M_takesOne y_M_takesOne ∈ gw := in_gw 49 (by decide +kernel) rfl
theorem kc_M_joins : Cond.code y_M_joins b_M_joins 2 (some .boolean) ∈ gw := in_gw 1186 (by decide +kernel) rfl
theorem ki_M_joins : Cond.instanceMethod y_M_joins ∈ gw := in_gw 1185 (by decide +kernel) rfl
theorem kl_M_joins : Cond.selects R_M y_M_joins y_M_joins ∈ gw := in_gw 50 (by decide +kernel) rfl
theorem kc_M_lacksOne : Cond.code y_M_lacksOne b_M_lacksOne 2 (some .int) ∈ gw := in_gw 1195 (by decide +kernel) rfl
theorem ki_M_lacksOne : Cond.instanceMethod y_M_lacksOne ∈ gw := in_gw 1194 (by decide +kernel) rfl
theorem kl_M_lacksOne : Cond.selects R_M y_M_lacksOne y_M_lacksOne ∈ gw := in_gw 52 (by decide +kernel) rfl
theorem kc_M_takesSeveral : Cond.code y_M_takesSeveral b_M_takesSeveral 7 (some .int) ∈ gw := in_gw 1190 (by decide +kernel) rfl
theorem ki_M_takesSeveral : Cond.instanceMethod y_M_takesSeveral ∈ gw := in_gw 1189 (by decide +kernel) rfl
theorem kl_M_takesSeveral : Cond.selects R_M y_M_takesSeveral y_M_takesSeveral ∈ gw := in_gw 51 (by decide +kernel) rfl
theorem kc_M_takes : Cond.code y_M_takes b_M_takes 7 (some .int) ∈ gw := in_gw 1174 (by decide +kernel) rfl
theorem ki_M_takes : Cond.instanceMethod y_M_takes ∈ gw := in_gw 1173 (by decide +kernel) rfl
theorem kl_M_takes : Cond.selects R_M y_M_takes y_M_takes ∈ gw := in_gw 47 (by decide +kernel) rfl
theorem kc_M_goesWith : Cond.code y_M_goesWith b_M_goesWith 3 (some .boolean) ∈ gw := in_gw 1158 (by decide +kernel) rfl
theorem ki_M_goesWith : Cond.instanceMethod y_M_goesWith ∈ gw := in_gw 1157 (by decide +kernel) rfl
theorem kl_M_goesWith : Cond.selects R_M y_M_goesWith y_M_goesWith ∈ gw := in_gw 43 (by decide +kernel) rfl
theorem kc_M_isFilled : Cond.code y_M_isFilled b_M_isFilled 10 (some .boolean) ∈ gw := in_gw 1154 (by decide +kernel) rfl
theorem ki_M_isFilled : Cond.instanceMethod y_M_isFilled ∈ gw := in_gw 1153 (by decide +kernel) rfl
theorem kl_M_isFilled : Cond.selects R_M y_M_isFilled y_M_isFilled ∈ gw := in_gw 42 (by decide +kernel) rfl
theorem kc_M_ends : Cond.code y_M_ends b_M_ends 7 none ∈ gw := in_gw 1146 (by decide +kernel) rfl
theorem ki_M_ends : Cond.instanceMethod y_M_ends ∈ gw := in_gw 1145 (by decide +kernel) rfl
theorem kl_M_ends : Cond.selects R_M y_M_ends y_M_ends ∈ gw := in_gw 40 (by decide +kernel) rfl
theorem kc_M_tries : Cond.code y_M_tries b_M_tries 5 none ∈ gw := in_gw 1142 (by decide +kernel) rfl
theorem ki_M_tries : Cond.instanceMethod y_M_tries ∈ gw := in_gw 1141 (by decide +kernel) rfl
theorem kl_M_tries : Cond.selects R_M y_M_tries y_M_tries ∈ gw := in_gw 39 (by decide +kernel) rfl
theorem kc_M_without : Cond.code y_M_without b_M_without 2 (some .int) ∈ gw := in_gw 1207 (by decide +kernel) rfl
theorem ki_M_without : Cond.instanceMethod y_M_without ∈ gw := in_gw 1206 (by decide +kernel) rfl
theorem kl_M_without : Cond.selects R_M y_M_without y_M_without ∈ gw := in_gw 55 (by decide +kernel) rfl
theorem kc_M_isTried : Cond.code y_M_isTried b_M_isTried 6 (some .int) ∈ gw := in_gw 1138 (by decide +kernel) rfl
theorem ki_M_isTried : Cond.instanceMethod y_M_isTried ∈ gw := in_gw 1137 (by decide +kernel) rfl
theorem kl_M_isTried : Cond.selects R_M y_M_isTried y_M_isTried ∈ gw := in_gw 38 (by decide +kernel) rfl
theorem kc_M_parse : Cond.code y_M_parse b_M_parse 8 (some .int) ∈ gw := in_gw 1087 (by decide +kernel) rfl
theorem ki_M_parse : Cond.instanceMethod y_M_parse ∈ gw := in_gw 1085 (by decide +kernel) rfl
theorem kl_M_parse : Cond.selects R_M y_M_parse y_M_parse ∈ gw := in_gw 1086 (by decide +kernel) rfl
theorem kc_M_comesIn : Cond.code y_M_comesIn b_M_comesIn 4 none ∈ gw := in_gw 1216 (by decide +kernel) rfl
theorem ki_M_comesIn : Cond.instanceMethod y_M_comesIn ∈ gw := in_gw 1215 (by decide +kernel) rfl
theorem kl_M_comesIn : Cond.selects R_M y_M_comesIn y_M_comesIn ∈ gw := in_gw 56 (by decide +kernel) rfl
theorem kc_M_answer : Cond.code y_M_answer b_M_answer 4 (some .int) ∈ gw := in_gw 1211 (by decide +kernel) rfl
theorem ki_M_answer : Cond.instanceMethod y_M_answer ∈ gw := in_gw 1209 (by decide +kernel) rfl
theorem kl_M_answer : Cond.selects R_M y_M_answer y_M_answer ∈ gw := in_gw 1210 (by decide +kernel) rfl
theorem kc_M_object : Cond.code y_M_object b_M_object 6 (some .int) ∈ gw := in_gw 1220 (by decide +kernel) rfl
theorem ki_M_object : Cond.instanceMethod y_M_object ∈ gw := in_gw 1218 (by decide +kernel) rfl
theorem kl_M_object : Cond.selects R_M y_M_object y_M_object ∈ gw := in_gw 1219 (by decide +kernel) rfl
theorem kc_M_asked : Cond.code y_M_asked b_M_asked 2 (some .int) ∈ gw := in_gw 1224 (by decide +kernel) rfl
theorem ki_M_asked : Cond.instanceMethod y_M_asked ∈ gw := in_gw 1222 (by decide +kernel) rfl
theorem kl_M_asked : Cond.selects R_M y_M_asked y_M_asked ∈ gw := in_gw 1223 (by decide +kernel) rfl
theorem kc_M_filled : Cond.code y_M_filled b_M_filled 2 (some .int) ∈ gw := in_gw 1228 (by decide +kernel) rfl
theorem ki_M_filled : Cond.instanceMethod y_M_filled ∈ gw := in_gw 1226 (by decide +kernel) rfl
theorem kl_M_filled : Cond.selects R_M y_M_filled y_M_filled ∈ gw := in_gw 1227 (by decide +kernel) rfl
theorem kc_M_told : Cond.code y_M_told b_M_told 2 (some .int) ∈ gw := in_gw 1232 (by decide +kernel) rfl
theorem ki_M_told : Cond.instanceMethod y_M_told ∈ gw := in_gw 1230 (by decide +kernel) rfl
theorem kl_M_told : Cond.selects R_M y_M_told y_M_told ∈ gw := in_gw 1231 (by decide +kernel) rfl
theorem kc_M_trace : Cond.code y_M_trace b_M_trace 3 (some .int) ∈ gw := in_gw 1236 (by decide +kernel) rfl
theorem ki_M_trace : Cond.instanceMethod y_M_trace ∈ gw := in_gw 1234 (by decide +kernel) rfl
theorem kl_M_trace : Cond.selects R_M y_M_trace y_M_trace ∈ gw := in_gw 1235 (by decide +kernel) rfl
theorem kc_M_said : Cond.code y_M_said b_M_said 3 (some .int) ∈ gw := in_gw 1240 (by decide +kernel) rfl
theorem ki_M_said : Cond.instanceMethod y_M_said ∈ gw := in_gw 1238 (by decide +kernel) rfl
theorem kl_M_said : Cond.selects R_M y_M_said y_M_said ∈ gw := in_gw 1239 (by decide +kernel) rfl
theorem kc_Row_init : Cond.code y_Row_init b_Row_init 2 none ∈ gw := in_gw 123 (by decide +kernel) rfl
theorem ki_Row_init : Cond.instanceMethod y_Row_init ∈ gw := in_gw 122 (by decide +kernel) rfl
theorem kc_Slot_init : Cond.code y_Slot_init b_Slot_init 1 none ∈ gw := in_gw 225 (by decide +kernel) rfl
theorem ki_Slot_init : Cond.instanceMethod y_Slot_init ∈ gw := in_gw 224 (by decide +kernel) rfl
theorem kc_Phrase_init : Cond.code y_Phrase_init b_Phrase_init 2 none ∈ gw := in_gw 198 (by decide +kernel) rfl
theorem ki_Phrase_init : Cond.instanceMethod y_Phrase_init ∈ gw := in_gw 197 (by decide +kernel) rfl
theorem kc_Things_init : Cond.code y_Things_init b_Things_init 1 none ∈ gw := in_gw 83 (by decide +kernel) rfl
theorem ki_Things_init : Cond.instanceMethod y_Things_init ∈ gw := in_gw 82 (by decide +kernel) rfl
theorem kc_Verbs_init : Cond.code y_Verbs_init b_Verbs_init 1 none ∈ gw := in_gw 117 (by decide +kernel) rfl
theorem ki_Verbs_init : Cond.instanceMethod y_Verbs_init ∈ gw := in_gw 116 (by decide +kernel) rfl
theorem kc_Lines_init : Cond.code y_Lines_init b_Lines_init 1 none ∈ gw := in_gw 149 (by decide +kernel) rfl
theorem ki_Lines_init : Cond.instanceMethod y_Lines_init ∈ gw := in_gw 148 (by decide +kernel) rfl
theorem kc_Values_init : Cond.code y_Values_init b_Values_init 1 none ∈ gw := in_gw 178 (by decide +kernel) rfl
theorem ki_Values_init : Cond.instanceMethod y_Values_init ∈ gw := in_gw 177 (by decide +kernel) rfl
theorem kc_Trial_init : Cond.code y_Trial_init b_Trial_init 5 none ∈ gw := in_gw 219 (by decide +kernel) rfl
theorem ki_Trial_init : Cond.instanceMethod y_Trial_init ∈ gw := in_gw 218 (by decide +kernel) rfl
theorem kc_Report_init : Cond.code y_Report_init b_Report_init 1 none ∈ gw := in_gw 304 (by decide +kernel) rfl
theorem ki_Report_init : Cond.instanceMethod y_Report_init ∈ gw := in_gw 303 (by decide +kernel) rfl
theorem kc_G_init : Cond.code y_G_init b_G_init 1 none ∈ gw := in_gw 75 (by decide +kernel) rfl
theorem ki_G_init : Cond.instanceMethod y_G_init ∈ gw := in_gw 74 (by decide +kernel) rfl
theorem kc_M_init : Cond.code y_M_init b_M_init 1 none ∈ gw := in_gw 844 (by decide +kernel) rfl
theorem ki_M_init : Cond.instanceMethod y_M_init ∈ gw := in_gw 843 (by decide +kernel) rfl
theorem k_arr_boolean : Cond.arrayClass .boolean ∈ gw := in_gw 173 (by decide +kernel) rfl
theorem k_arr_int : Cond.arrayClass .int ∈ gw := in_gw 112 (by decide +kernel) rfl
theorem k_arr_long : Cond.arrayClass .long ∈ gw := in_gw 1015 (by decide +kernel) rfl
theorem k_cl_JLong_314 : Cond.constantLong R_JLong 314 (6148914691236517205) ∈ gw := in_gw 604 (by decide +kernel) rfl
theorem k_cl_JLong_316 : Cond.constantLong R_JLong 316 (3689348814741910323) ∈ gw := in_gw 605 (by decide +kernel) rfl
theorem k_cl_JLong_318 : Cond.constantLong R_JLong 318 (1085102592571150095) ∈ gw := in_gw 606 (by decide +kernel) rfl
theorem k_cl_M_248 : Cond.constantLong R_M 248 (-1) ∈ gw := in_gw 1191 (by decide +kernel) rfl
theorem k_cl_Things_62 : Cond.constantLong R_Things 62 (-1) ∈ gw := in_gw 701 (by decide +kernel) rfl
theorem k_cl_Trial_192 : Cond.constantLong R_Trial 192 (-1) ∈ gw := in_gw 702 (by decide +kernel) rfl
theorem k_code_JMath_max : Cond.code Lib.Math.max.name Lib.Math.max.code 2 (some .int) ∈ gw := in_gw 127 (by decide +kernel) rfl
theorem k_code_JMath_min : Cond.code Lib.Math.min.name Lib.Math.min.code 2 (some .int) ∈ gw := in_gw 614 (by decide +kernel) rfl
theorem k_f_G_10 : Cond.fieldLink R_G 10 "GrammarLines" "things" "LGrammarLines$Things;" ∈ gw := in_gw 345 (by decide +kernel) rfl
theorem k_f_G_19 : Cond.fieldLink R_G 19 "GrammarLines" "verbs" "LGrammarLines$Verbs;" ∈ gw := in_gw 346 (by decide +kernel) rfl
theorem k_f_G_26 : Cond.fieldLink R_G 26 "GrammarLines" "lines" "LGrammarLines$Lines;" ∈ gw := in_gw 347 (by decide +kernel) rfl
theorem k_f_G_33 : Cond.fieldLink R_G 33 "GrammarLines" "values" "LGrammarLines$Values;" ∈ gw := in_gw 348 (by decide +kernel) rfl
theorem k_f_G_42 : Cond.fieldLink R_G 42 "GrammarLines" "input" "LGrammarLines$Row;" ∈ gw := in_gw 349 (by decide +kernel) rfl
theorem k_f_G_46 : Cond.fieldLink R_G 46 "GrammarLines" "command" "LGrammarLines$Row;" ∈ gw := in_gw 350 (by decide +kernel) rfl
theorem k_f_G_49 : Cond.fieldLink R_G 49 "GrammarLines" "taken" "LGrammarLines$Row;" ∈ gw := in_gw 351 (by decide +kernel) rfl
theorem k_f_G_52 : Cond.fieldLink R_G 52 "GrammarLines" "done" "LGrammarLines$Row;" ∈ gw := in_gw 352 (by decide +kernel) rfl
theorem k_f_G_60 : Cond.fieldLink R_G 60 "GrammarLines" "addressee" "LGrammarLines$Phrase;" ∈ gw := in_gw 353 (by decide +kernel) rfl
theorem k_f_G_69 : Cond.fieldLink R_G 69 "GrammarLines" "trial" "LGrammarLines$Trial;" ∈ gw := in_gw 354 (by decide +kernel) rfl
theorem k_f_G_76 : Cond.fieldLink R_G 76 "GrammarLines" "report" "LGrammarLines$Report;" ∈ gw := in_gw 355 (by decide +kernel) rfl
theorem k_f_G_80 : Cond.fieldLink R_G 80 "GrammarLines" "recipient" "I" ∈ gw := in_gw 356 (by decide +kernel) rfl
theorem k_f_G_84 : Cond.fieldLink R_G 84 "GrammarLines" "doneTo" "I" ∈ gw := in_gw 357 (by decide +kernel) rfl
theorem k_f_Lines_15 : Cond.fieldLink R_Lines 15 "GrammarLines$Lines" "actions" "[I" ∈ gw := in_gw 152 (by decide +kernel) rfl
theorem k_f_Lines_18 : Cond.fieldLink R_Lines 18 "GrammarLines$Lines" "reversals" "[Z" ∈ gw := in_gw 153 (by decide +kernel) rfl
theorem k_f_Lines_22 : Cond.fieldLink R_Lines 22 "GrammarLines$Lines" "kindCounts" "[I" ∈ gw := in_gw 154 (by decide +kernel) rfl
theorem k_f_Lines_25 : Cond.fieldLink R_Lines 25 "GrammarLines$Lines" "kinds" "[I" ∈ gw := in_gw 155 (by decide +kernel) rfl
theorem k_f_Lines_28 : Cond.fieldLink R_Lines 28 "GrammarLines$Lines" "ofs" "[I" ∈ gw := in_gw 156 (by decide +kernel) rfl
theorem k_f_Lines_31 : Cond.fieldLink R_Lines 31 "GrammarLines$Lines" "count" "I" ∈ gw := in_gw 157 (by decide +kernel) rfl
theorem k_f_Lines_9 : Cond.fieldLink R_Lines 9 "GrammarLines$Lines" "verbs" "[I" ∈ gw := in_gw 151 (by decide +kernel) rfl
theorem k_f_M_103 : Cond.fieldLink R_M 103 "GrammarLinesModel" "toWhom" "I" ∈ gw := in_gw 888 (by decide +kernel) rfl
theorem k_f_M_106 : Cond.fieldLink R_M 106 "GrammarLinesModel" "errorPlace" "I" ∈ gw := in_gw 895 (by decide +kernel) rfl
theorem k_f_M_109 : Cond.fieldLink R_M 109 "GrammarLinesModel" "errorLine" "I" ∈ gw := in_gw 896 (by decide +kernel) rfl
theorem k_f_M_116 : Cond.fieldLink R_M 116 "GrammarLinesModel" "verbWords" "I" ∈ gw := in_gw 847 (by decide +kernel) rfl
theorem k_f_M_127 : Cond.fieldLink R_M 127 "GrammarLinesModel" "verbs" "I" ∈ gw := in_gw 846 (by decide +kernel) rfl
theorem k_f_M_13 : Cond.fieldLink R_M 13 "GrammarLinesModel" "verbOf" "[I" ∈ gw := in_gw 849 (by decide +kernel) rfl
theorem k_f_M_134 : Cond.fieldLink R_M 134 "GrammarLinesModel" "lines" "I" ∈ gw := in_gw 850 (by decide +kernel) rfl
theorem k_f_M_140 : Cond.fieldLink R_M 140 "GrammarLinesModel" "things" "I" ∈ gw := in_gw 857 (by decide +kernel) rfl
theorem k_f_M_147 : Cond.fieldLink R_M 147 "GrammarLinesModel" "pairs" "I" ∈ gw := in_gw 861 (by decide +kernel) rfl
theorem k_f_M_157 : Cond.fieldLink R_M 157 "GrammarLinesModel" "inputMany" "I" ∈ gw := in_gw 865 (by decide +kernel) rfl
theorem k_f_M_16 : Cond.fieldLink R_M 16 "GrammarLinesModel" "lineVerb" "[I" ∈ gw := in_gw 851 (by decide +kernel) rfl
theorem k_f_M_167 : Cond.fieldLink R_M 167 "GrammarLinesModel" "rowMany" "I" ∈ gw := in_gw 868 (by decide +kernel) rfl
theorem k_f_M_170 : Cond.fieldLink R_M 170 "GrammarLinesModel" "phraseThings" "J" ∈ gw := in_gw 869 (by decide +kernel) rfl
theorem k_f_M_180 : Cond.fieldLink R_M 180 "GrammarLinesModel" "error" "I" ∈ gw := in_gw 870 (by decide +kernel) rfl
theorem k_f_M_183 : Cond.fieldLink R_M 183 "GrammarLinesModel" "place" "I" ∈ gw := in_gw 871 (by decide +kernel) rfl
theorem k_f_M_186 : Cond.fieldLink R_M 186 "GrammarLinesModel" "slotMany" "I" ∈ gw := in_gw 879 (by decide +kernel) rfl
theorem k_f_M_19 : Cond.fieldLink R_M 19 "GrammarLinesModel" "lineAction" "[I" ∈ gw := in_gw 852 (by decide +kernel) rfl
theorem k_f_M_192 : Cond.fieldLink R_M 192 "GrammarLinesModel" "fills" "I" ∈ gw := in_gw 877 (by decide +kernel) rfl
theorem k_f_M_195 : Cond.fieldLink R_M 195 "GrammarLinesModel" "toldMany" "I" ∈ gw := in_gw 875 (by decide +kernel) rfl
theorem k_f_M_22 : Cond.fieldLink R_M 22 "GrammarLinesModel" "isReversed" "[Z" ∈ gw := in_gw 853 (by decide +kernel) rfl
theorem k_f_M_242 : Cond.fieldLink R_M 242 "GrammarLinesModel" "which" "J" ∈ gw := in_gw 872 (by decide +kernel) rfl
theorem k_f_M_245 : Cond.fieldLink R_M 245 "GrammarLinesModel" "phraseEnd" "I" ∈ gw := in_gw 873 (by decide +kernel) rfl
theorem k_f_M_256 : Cond.fieldLink R_M 256 "GrammarLinesModel" "lacks" "I" ∈ gw := in_gw 874 (by decide +kernel) rfl
theorem k_f_M_26 : Cond.fieldLink R_M 26 "GrammarLinesModel" "tokenMany" "[I" ∈ gw := in_gw 854 (by decide +kernel) rfl
theorem k_f_M_266 : Cond.fieldLink R_M 266 "GrammarLinesModel" "tried" "I" ∈ gw := in_gw 889 (by decide +kernel) rfl
theorem k_f_M_269 : Cond.fieldLink R_M 269 "GrammarLinesModel" "lastError" "I" ∈ gw := in_gw 894 (by decide +kernel) rfl
theorem k_f_M_272 : Cond.fieldLink R_M 272 "GrammarLinesModel" "commandMany" "I" ∈ gw := in_gw 886 (by decide +kernel) rfl
theorem k_f_M_286 : Cond.fieldLink R_M 286 "GrammarLinesModel" "hasAction" "Z" ∈ gw := in_gw 898 (by decide +kernel) rfl
theorem k_f_M_29 : Cond.fieldLink R_M 29 "GrammarLinesModel" "tokenKind" "[I" ∈ gw := in_gw 855 (by decide +kernel) rfl
theorem k_f_M_290 : Cond.fieldLink R_M 290 "GrammarLinesModel" "againTo" "I" ∈ gw := in_gw 901 (by decide +kernel) rfl
theorem k_f_M_293 : Cond.fieldLink R_M 293 "GrammarLinesModel" "askedKind" "I" ∈ gw := in_gw 897 (by decide +kernel) rfl
theorem k_f_M_296 : Cond.fieldLink R_M 296 "GrammarLinesModel" "isAnswered" "Z" ∈ gw := in_gw 893 (by decide +kernel) rfl
theorem k_f_M_32 : Cond.fieldLink R_M 32 "GrammarLinesModel" "tokenOf" "[I" ∈ gw := in_gw 856 (by decide +kernel) rfl
theorem k_f_M_35 : Cond.fieldLink R_M 35 "GrammarLinesModel" "flagOf" "[I" ∈ gw := in_gw 858 (by decide +kernel) rfl
theorem k_f_M_38 : Cond.fieldLink R_M 38 "GrammarLinesModel" "nameMany" "[I" ∈ gw := in_gw 859 (by decide +kernel) rfl
theorem k_f_M_41 : Cond.fieldLink R_M 41 "GrammarLinesModel" "nameOf" "[I" ∈ gw := in_gw 860 (by decide +kernel) rfl
theorem k_f_M_44 : Cond.fieldLink R_M 44 "GrammarLinesModel" "pairNumber" "[I" ∈ gw := in_gw 862 (by decide +kernel) rfl
theorem k_f_M_47 : Cond.fieldLink R_M 47 "GrammarLinesModel" "pairWord" "[I" ∈ gw := in_gw 863 (by decide +kernel) rfl
theorem k_f_M_50 : Cond.fieldLink R_M 50 "GrammarLinesModel" "pairValue" "[I" ∈ gw := in_gw 864 (by decide +kernel) rfl
theorem k_f_M_53 : Cond.fieldLink R_M 53 "GrammarLinesModel" "input" "[I" ∈ gw := in_gw 866 (by decide +kernel) rfl
theorem k_f_M_56 : Cond.fieldLink R_M 56 "GrammarLinesModel" "row" "[I" ∈ gw := in_gw 867 (by decide +kernel) rfl
theorem k_f_M_59 : Cond.fieldLink R_M 59 "GrammarLinesModel" "toldWords" "[I" ∈ gw := in_gw 876 (by decide +kernel) rfl
theorem k_f_M_62 : Cond.fieldLink R_M 62 "GrammarLinesModel" "filledOnes" "[I" ∈ gw := in_gw 878 (by decide +kernel) rfl
theorem k_f_M_65 : Cond.fieldLink R_M 65 "GrammarLinesModel" "slotKind" "[I" ∈ gw := in_gw 880 (by decide +kernel) rfl
theorem k_f_M_68 : Cond.fieldLink R_M 68 "GrammarLinesModel" "slotAt" "[I" ∈ gw := in_gw 881 (by decide +kernel) rfl
theorem k_f_M_7 : Cond.fieldLink R_M 7 "GrammarLinesModel" "verbWord" "[I" ∈ gw := in_gw 848 (by decide +kernel) rfl
theorem k_f_M_71 : Cond.fieldLink R_M 71 "GrammarLinesModel" "slotThings" "[J" ∈ gw := in_gw 882 (by decide +kernel) rfl
theorem k_f_M_75 : Cond.fieldLink R_M 75 "GrammarLinesModel" "slotFrom" "[I" ∈ gw := in_gw 883 (by decide +kernel) rfl
theorem k_f_M_78 : Cond.fieldLink R_M 78 "GrammarLinesModel" "slotTo" "[I" ∈ gw := in_gw 884 (by decide +kernel) rfl
theorem k_f_M_81 : Cond.fieldLink R_M 81 "GrammarLinesModel" "slotNumber" "[I" ∈ gw := in_gw 885 (by decide +kernel) rfl
theorem k_f_M_84 : Cond.fieldLink R_M 84 "GrammarLinesModel" "command" "[I" ∈ gw := in_gw 887 (by decide +kernel) rfl
theorem k_f_M_87 : Cond.fieldLink R_M 87 "GrammarLinesModel" "triedLine" "[I" ∈ gw := in_gw 890 (by decide +kernel) rfl
theorem k_f_M_90 : Cond.fieldLink R_M 90 "GrammarLinesModel" "triedError" "[I" ∈ gw := in_gw 891 (by decide +kernel) rfl
theorem k_f_M_93 : Cond.fieldLink R_M 93 "GrammarLinesModel" "triedPlace" "[I" ∈ gw := in_gw 892 (by decide +kernel) rfl
theorem k_f_M_96 : Cond.fieldLink R_M 96 "GrammarLinesModel" "again" "[I" ∈ gw := in_gw 900 (by decide +kernel) rfl
theorem k_f_M_99 : Cond.fieldLink R_M 99 "GrammarLinesModel" "againMany" "I" ∈ gw := in_gw 899 (by decide +kernel) rfl
theorem k_f_Phrase_19 : Cond.fieldLink R_Phrase 19 "GrammarLines$Phrase" "its" "J" ∈ gw := in_gw 201 (by decide +kernel) rfl
theorem k_f_Phrase_22 : Cond.fieldLink R_Phrase 22 "GrammarLines$Phrase" "end" "I" ∈ gw := in_gw 204 (by decide +kernel) rfl
theorem k_f_Phrase_7 : Cond.fieldLink R_Phrase 7 "GrammarLines$Phrase" "things" "LGrammarLines$Things;" ∈ gw := in_gw 200 (by decide +kernel) rfl
theorem k_f_Report_14 : Cond.fieldLink R_Report 14 "GrammarLines$Report" "triedLines" "LGrammarLines$Row;" ∈ gw := in_gw 308 (by decide +kernel) rfl
theorem k_f_Report_20 : Cond.fieldLink R_Report 20 "GrammarLines$Report" "triedErrors" "LGrammarLines$Row;" ∈ gw := in_gw 310 (by decide +kernel) rfl
theorem k_f_Report_23 : Cond.fieldLink R_Report 23 "GrammarLines$Report" "triedPlaces" "LGrammarLines$Row;" ∈ gw := in_gw 312 (by decide +kernel) rfl
theorem k_f_Report_26 : Cond.fieldLink R_Report 26 "GrammarLines$Report" "question" "LGrammarLines$Row;" ∈ gw := in_gw 314 (by decide +kernel) rfl
theorem k_f_Report_29 : Cond.fieldLink R_Report 29 "GrammarLines$Report" "action" "I" ∈ gw := in_gw 316 (by decide +kernel) rfl
theorem k_f_Report_33 : Cond.fieldLink R_Report 33 "GrammarLines$Report" "place" "I" ∈ gw := in_gw 320 (by decide +kernel) rfl
theorem k_f_Report_36 : Cond.fieldLink R_Report 36 "GrammarLines$Report" "line" "I" ∈ gw := in_gw 322 (by decide +kernel) rfl
theorem k_f_Report_42 : Cond.fieldLink R_Report 42 "GrammarLines$Report" "error" "I" ∈ gw := in_gw 318 (by decide +kernel) rfl
theorem k_f_Report_71 : Cond.fieldLink R_Report 71 "GrammarLines$Report" "phraseEnd" "I" ∈ gw := in_gw 324 (by decide +kernel) rfl
theorem k_f_Row_15 : Cond.fieldLink R_Row 15 "GrammarLines$Row" "items" "[I" ∈ gw := in_gw 128 (by decide +kernel) rfl
theorem k_f_Row_21 : Cond.fieldLink R_Row 21 "GrammarLines$Row" "size" "I" ∈ gw := in_gw 129 (by decide +kernel) rfl
theorem k_f_Slot_14 : Cond.fieldLink R_Slot 14 "GrammarLines$Slot" "items" "LGrammarLines$Row;" ∈ gw := in_gw 229 (by decide +kernel) rfl
theorem k_f_Slot_20 : Cond.fieldLink R_Slot 20 "GrammarLines$Slot" "kind" "I" ∈ gw := in_gw 232 (by decide +kernel) rfl
theorem k_f_Slot_24 : Cond.fieldLink R_Slot 24 "GrammarLines$Slot" "place" "I" ∈ gw := in_gw 235 (by decide +kernel) rfl
theorem k_f_Slot_30 : Cond.fieldLink R_Slot 30 "GrammarLines$Slot" "things" "J" ∈ gw := in_gw 237 (by decide +kernel) rfl
theorem k_f_Things_15 : Cond.fieldLink R_Things 15 "GrammarLines$Things" "nameCounts" "[I" ∈ gw := in_gw 86 (by decide +kernel) rfl
theorem k_f_Things_18 : Cond.fieldLink R_Things 18 "GrammarLines$Things" "names" "[I" ∈ gw := in_gw 87 (by decide +kernel) rfl
theorem k_f_Things_21 : Cond.fieldLink R_Things 21 "GrammarLines$Things" "count" "I" ∈ gw := in_gw 88 (by decide +kernel) rfl
theorem k_f_Things_41 : Cond.fieldLink R_Things 41 "GrammarLines$Things" "inScope" "J" ∈ gw := in_gw 90 (by decide +kernel) rfl
theorem k_f_Things_45 : Cond.fieldLink R_Things 45 "GrammarLines$Things" "held" "J" ∈ gw := in_gw 91 (by decide +kernel) rfl
theorem k_f_Things_48 : Cond.fieldLink R_Things 48 "GrammarLines$Things" "worn" "J" ∈ gw := in_gw 92 (by decide +kernel) rfl
theorem k_f_Things_51 : Cond.fieldLink R_Things 51 "GrammarLines$Things" "creatures" "J" ∈ gw := in_gw 93 (by decide +kernel) rfl
theorem k_f_Things_9 : Cond.fieldLink R_Things 9 "GrammarLines$Things" "flagsOf" "[I" ∈ gw := in_gw 85 (by decide +kernel) rfl
theorem k_f_Trial_12 : Cond.fieldLink R_Trial 12 "GrammarLines$Trial" "first" "LGrammarLines$Slot;" ∈ gw := in_gw 258 (by decide +kernel) rfl
theorem k_f_Trial_18 : Cond.fieldLink R_Trial 18 "GrammarLines$Trial" "second" "LGrammarLines$Slot;" ∈ gw := in_gw 260 (by decide +kernel) rfl
theorem k_f_Trial_26 : Cond.fieldLink R_Trial 26 "GrammarLines$Trial" "filled" "LGrammarLines$Row;" ∈ gw := in_gw 262 (by decide +kernel) rfl
theorem k_f_Trial_30 : Cond.fieldLink R_Trial 30 "GrammarLines$Trial" "question" "LGrammarLines$Row;" ∈ gw := in_gw 264 (by decide +kernel) rfl
theorem k_f_Trial_33 : Cond.fieldLink R_Trial 33 "GrammarLines$Trial" "line" "I" ∈ gw := in_gw 266 (by decide +kernel) rfl
theorem k_f_Trial_37 : Cond.fieldLink R_Trial 37 "GrammarLines$Trial" "place" "I" ∈ gw := in_gw 271 (by decide +kernel) rfl
theorem k_f_Trial_40 : Cond.fieldLink R_Trial 40 "GrammarLines$Trial" "things" "LGrammarLines$Things;" ∈ gw := in_gw 252 (by decide +kernel) rfl
theorem k_f_Trial_44 : Cond.fieldLink R_Trial 44 "GrammarLines$Trial" "lines" "LGrammarLines$Lines;" ∈ gw := in_gw 253 (by decide +kernel) rfl
theorem k_f_Trial_48 : Cond.fieldLink R_Trial 48 "GrammarLines$Trial" "values" "LGrammarLines$Values;" ∈ gw := in_gw 254 (by decide +kernel) rfl
theorem k_f_Trial_52 : Cond.fieldLink R_Trial 52 "GrammarLines$Trial" "words" "LGrammarLines$Row;" ∈ gw := in_gw 255 (by decide +kernel) rfl
theorem k_f_Trial_60 : Cond.fieldLink R_Trial 60 "GrammarLines$Trial" "phrase" "LGrammarLines$Phrase;" ∈ gw := in_gw 256 (by decide +kernel) rfl
theorem k_f_Trial_76 : Cond.fieldLink R_Trial 76 "GrammarLines$Trial" "error" "I" ∈ gw := in_gw 269 (by decide +kernel) rfl
theorem k_f_Trial_83 : Cond.fieldLink R_Trial 83 "GrammarLines$Trial" "cursor" "I" ∈ gw := in_gw 268 (by decide +kernel) rfl
theorem k_f_Values_14 : Cond.fieldLink R_Values 14 "GrammarLines$Values" "customs" "LGrammarLines$Row;" ∈ gw := in_gw 182 (by decide +kernel) rfl
theorem k_f_Values_20 : Cond.fieldLink R_Values 20 "GrammarLines$Values" "words" "LGrammarLines$Row;" ∈ gw := in_gw 183 (by decide +kernel) rfl
theorem k_f_Values_23 : Cond.fieldLink R_Values 23 "GrammarLines$Values" "values" "LGrammarLines$Row;" ∈ gw := in_gw 184 (by decide +kernel) rfl
theorem k_f_Verbs_14 : Cond.fieldLink R_Verbs 14 "GrammarLines$Verbs" "words" "LGrammarLines$Row;" ∈ gw := in_gw 135 (by decide +kernel) rfl
theorem k_f_Verbs_20 : Cond.fieldLink R_Verbs 20 "GrammarLines$Verbs" "owners" "LGrammarLines$Row;" ∈ gw := in_gw 136 (by decide +kernel) rfl
theorem k_f_Verbs_23 : Cond.fieldLink R_Verbs 23 "GrammarLines$Verbs" "count" "I" ∈ gw := in_gw 137 (by decide +kernel) rfl
theorem k_fn_G_194 : Cond.fieldLinkNest R_G 194 "GrammarLines$Report" "error" "I" "GrammarLines" ∈ nw := in_nw 319 (by decide +kernel) rfl
theorem k_fn_G_197 : Cond.fieldLinkNest R_G 197 "GrammarLines$Report" "question" "LGrammarLines$Row;" "GrammarLines" ∈ nw := in_nw 315 (by decide +kernel) rfl
theorem k_fn_G_200 : Cond.fieldLinkNest R_G 200 "GrammarLines$Report" "phraseEnd" "I" "GrammarLines" ∈ nw := in_nw 325 (by decide +kernel) rfl
theorem k_fn_G_210 : Cond.fieldLinkNest R_G 210 "GrammarLines$Report" "action" "I" "GrammarLines" ∈ nw := in_nw 317 (by decide +kernel) rfl
theorem k_fn_G_213 : Cond.fieldLinkNest R_G 213 "GrammarLines$Report" "line" "I" "GrammarLines" ∈ nw := in_nw 323 (by decide +kernel) rfl
theorem k_fn_G_222 : Cond.fieldLinkNest R_G 222 "GrammarLines$Trial" "first" "LGrammarLines$Slot;" "GrammarLines" ∈ nw := in_nw 259 (by decide +kernel) rfl
theorem k_fn_G_226 : Cond.fieldLinkNest R_G 226 "GrammarLines$Trial" "second" "LGrammarLines$Slot;" "GrammarLines" ∈ nw := in_nw 261 (by decide +kernel) rfl
theorem k_fn_G_229 : Cond.fieldLinkNest R_G 229 "GrammarLines$Slot" "kind" "I" "GrammarLines" ∈ nw := in_nw 234 (by decide +kernel) rfl
theorem k_fn_G_234 : Cond.fieldLinkNest R_G 234 "GrammarLines$Slot" "items" "LGrammarLines$Row;" "GrammarLines" ∈ nw := in_nw 231 (by decide +kernel) rfl
theorem k_fn_G_237 : Cond.fieldLinkNest R_G 237 "GrammarLines$Trial" "filled" "LGrammarLines$Row;" "GrammarLines" ∈ nw := in_nw 263 (by decide +kernel) rfl
theorem k_fn_G_240 : Cond.fieldLinkNest R_G 240 "GrammarLines$Report" "place" "I" "GrammarLines" ∈ nw := in_nw 321 (by decide +kernel) rfl
theorem k_fn_G_243 : Cond.fieldLinkNest R_G 243 "GrammarLines$Report" "triedLines" "LGrammarLines$Row;" "GrammarLines" ∈ nw := in_nw 309 (by decide +kernel) rfl
theorem k_fn_G_249 : Cond.fieldLinkNest R_G 249 "GrammarLines$Report" "triedErrors" "LGrammarLines$Row;" "GrammarLines" ∈ nw := in_nw 311 (by decide +kernel) rfl
theorem k_fn_G_252 : Cond.fieldLinkNest R_G 252 "GrammarLines$Report" "triedPlaces" "LGrammarLines$Row;" "GrammarLines" ∈ nw := in_nw 313 (by decide +kernel) rfl
theorem k_fn_G_258 : Cond.fieldLinkNest R_G 258 "GrammarLines$Phrase" "its" "J" "GrammarLines" ∈ nw := in_nw 203 (by decide +kernel) rfl
theorem k_fn_G_268 : Cond.fieldLinkNest R_G 268 "GrammarLines$Things" "creatures" "J" "GrammarLines" ∈ nw := in_nw 94 (by decide +kernel) rfl
theorem k_fn_G_271 : Cond.fieldLinkNest R_G 271 "GrammarLines$Phrase" "end" "I" "GrammarLines" ∈ nw := in_nw 207 (by decide +kernel) rfl
theorem k_fn_Phrase_13 : Cond.fieldLinkNest R_Phrase 13 "GrammarLines$Things" "inScope" "J" "GrammarLines" ∈ nw := in_nw 89 (by decide +kernel) rfl
theorem k_fn_Report_45 : Cond.fieldLinkNest R_Report 45 "GrammarLines$Trial" "line" "I" "GrammarLines" ∈ nw := in_nw 267 (by decide +kernel) rfl
theorem k_fn_Report_51 : Cond.fieldLinkNest R_Report 51 "GrammarLines$Trial" "error" "I" "GrammarLines" ∈ nw := in_nw 270 (by decide +kernel) rfl
theorem k_fn_Report_52 : Cond.fieldLinkNest R_Report 52 "GrammarLines$Trial" "place" "I" "GrammarLines" ∈ nw := in_nw 272 (by decide +kernel) rfl
theorem k_fn_Report_57 : Cond.fieldLinkNest R_Report 57 "GrammarLines$Trial" "question" "LGrammarLines$Row;" "GrammarLines" ∈ nw := in_nw 265 (by decide +kernel) rfl
theorem k_fn_Report_62 : Cond.fieldLinkNest R_Report 62 "GrammarLines$Trial" "phrase" "LGrammarLines$Phrase;" "GrammarLines" ∈ nw := in_nw 257 (by decide +kernel) rfl
theorem k_fn_Report_66 : Cond.fieldLinkNest R_Report 66 "GrammarLines$Phrase" "end" "I" "GrammarLines" ∈ nw := in_nw 205 (by decide +kernel) rfl
theorem k_fn_Trial_131 : Cond.fieldLinkNest R_Trial 131 "GrammarLines$Slot" "place" "I" "GrammarLines" ∈ nw := in_nw 236 (by decide +kernel) rfl
theorem k_fn_Trial_144 : Cond.fieldLinkNest R_Trial 144 "GrammarLines$Slot" "items" "LGrammarLines$Row;" "GrammarLines" ∈ nw := in_nw 230 (by decide +kernel) rfl
theorem k_fn_Trial_159 : Cond.fieldLinkNest R_Trial 159 "GrammarLines$Slot" "things" "J" "GrammarLines" ∈ nw := in_nw 238 (by decide +kernel) rfl
theorem k_fn_Trial_168 : Cond.fieldLinkNest R_Trial 168 "GrammarLines$Phrase" "its" "J" "GrammarLines" ∈ nw := in_nw 202 (by decide +kernel) rfl
theorem k_fn_Trial_186 : Cond.fieldLinkNest R_Trial 186 "GrammarLines$Phrase" "end" "I" "GrammarLines" ∈ nw := in_nw 206 (by decide +kernel) rfl
theorem k_fn_Trial_64 : Cond.fieldLinkNest R_Trial 64 "GrammarLines$Slot" "kind" "I" "GrammarLines" ∈ nw := in_nw 233 (by decide +kernel) rfl
theorem k_initialized_JMath : Cond.initialized "java/lang/Math" ∈ gw := in_gw 62 (by decide +kernel) rfl
theorem k_inst_G : Cond.instantiable R_G 13 ∈ gw := in_gw 72 (by decide +kernel) rfl
theorem k_inst_Lines : Cond.instantiable R_Lines 7 ∈ gw := in_gw 146 (by decide +kernel) rfl
theorem k_inst_M : Cond.instantiable R_M 56 ∈ gw := in_gw 841 (by decide +kernel) rfl
theorem k_inst_Phrase : Cond.instantiable R_Phrase 3 ∈ gw := in_gw 195 (by decide +kernel) rfl
theorem k_inst_Report : Cond.instantiable R_Report 9 ∈ gw := in_gw 301 (by decide +kernel) rfl
theorem k_inst_Row : Cond.instantiable R_Row 2 ∈ gw := in_gw 120 (by decide +kernel) rfl
theorem k_inst_Slot : Cond.instantiable R_Slot 4 ∈ gw := in_gw 222 (by decide +kernel) rfl
theorem k_inst_Things : Cond.instantiable R_Things 8 ∈ gw := in_gw 80 (by decide +kernel) rfl
theorem k_inst_Trial : Cond.instantiable R_Trial 13 ∈ gw := in_gw 216 (by decide +kernel) rfl
theorem k_inst_Values : Cond.instantiable R_Values 3 ∈ gw := in_gw 175 (by decide +kernel) rfl
theorem k_inst_Verbs : Cond.instantiable R_Verbs 3 ∈ gw := in_gw 114 (by decide +kernel) rfl
theorem k_k_G_16 : Cond.classLink R_G 16 R_Verbs ∈ gw := in_gw 113 (by decide +kernel) rfl
theorem k_k_G_23 : Cond.classLink R_G 23 R_Lines ∈ gw := in_gw 145 (by decide +kernel) rfl
theorem k_k_G_30 : Cond.classLink R_G 30 R_Values ∈ gw := in_gw 174 (by decide +kernel) rfl
theorem k_k_G_37 : Cond.classLink R_G 37 R_Row ∈ gw := in_gw 192 (by decide +kernel) rfl
theorem k_k_G_55 : Cond.classLink R_G 55 R_Phrase ∈ gw := in_gw 194 (by decide +kernel) rfl
theorem k_k_G_64 : Cond.classLink R_G 64 R_Trial ∈ gw := in_gw 215 (by decide +kernel) rfl
theorem k_k_G_7 : Cond.classLink R_G 7 R_Things ∈ gw := in_gw 79 (by decide +kernel) rfl
theorem k_k_G_73 : Cond.classLink R_G 73 R_Report ∈ gw := in_gw 300 (by decide +kernel) rfl
theorem k_k_L_10 : Cond.classLink R_L 10 R_M ∈ gw := in_gw 840 (by decide +kernel) rfl
theorem k_k_L_7 : Cond.classLink R_L 7 R_G ∈ gw := in_gw 71 (by decide +kernel) rfl
theorem k_k_Report_9 : Cond.classLink R_Report 9 R_Row ∈ gw := in_gw 306 (by decide +kernel) rfl
theorem k_k_Slot_9 : Cond.classLink R_Slot 9 R_Row ∈ gw := in_gw 227 (by decide +kernel) rfl
theorem k_k_Trial_21 : Cond.classLink R_Trial 21 R_Row ∈ gw := in_gw 248 (by decide +kernel) rfl
theorem k_k_Trial_55 : Cond.classLink R_Trial 55 R_Phrase ∈ gw := in_gw 250 (by decide +kernel) rfl
theorem k_k_Trial_9 : Cond.classLink R_Trial 9 R_Slot ∈ gw := in_gw 221 (by decide +kernel) rfl
theorem k_k_Values_9 : Cond.classLink R_Values 9 R_Row ∈ gw := in_gw 180 (by decide +kernel) rfl
theorem k_k_Verbs_9 : Cond.classLink R_Verbs 9 R_Row ∈ gw := in_gw 119 (by decide +kernel) rfl
theorem k_m_G_1 : Cond.methodLink R_G 1 objectInit ∈ gw := in_gw 76 (by decide +kernel) rfl
theorem k_m_G_102 : Cond.methodLink R_G 102 y_Verbs_has ∈ gw := in_gw 432 (by decide +kernel) rfl
theorem k_m_G_105 : Cond.methodLink R_G 105 y_Verbs_addWord ∈ gw := in_gw 436 (by decide +kernel) rfl
theorem k_m_G_109 : Cond.methodLink R_G 109 y_Lines_isFull ∈ gw := in_gw 441 (by decide +kernel) rfl
theorem k_m_G_110 : Cond.methodLink R_G 110 y_Lines_add ∈ gw := in_gw 445 (by decide +kernel) rfl
theorem k_m_G_113 : Cond.methodLink R_G 113 y_Lines_has ∈ gw := in_gw 454 (by decide +kernel) rfl
theorem k_m_G_114 : Cond.methodLink R_G 114 y_G_mayBeToken ∈ gw := in_gw 458 (by decide +kernel) rfl
theorem k_m_G_118 : Cond.methodLink R_G 118 y_Lines_allows ∈ gw := in_gw 461 (by decide +kernel) rfl
theorem k_m_G_121 : Cond.methodLink R_G 121 y_Lines_kindsOf ∈ gw := in_gw 481 (by decide +kernel) rfl
theorem k_m_G_124 : Cond.methodLink R_G 124 y_Lines_addKind ∈ gw := in_gw 482 (by decide +kernel) rfl
theorem k_m_G_128 : Cond.methodLink R_G 128 y_G_mayBeFlags ∈ gw := in_gw 490 (by decide +kernel) rfl
theorem k_m_G_131 : Cond.methodLink R_G 131 y_Things_isFull ∈ gw := in_gw 493 (by decide +kernel) rfl
theorem k_m_G_132 : Cond.methodLink R_G 132 y_Things_add ∈ gw := in_gw 497 (by decide +kernel) rfl
theorem k_m_G_133 : Cond.methodLink R_G 133 y_Things_has ∈ gw := in_gw 518 (by decide +kernel) rfl
theorem k_m_G_134 : Cond.methodLink R_G 134 y_G_isPlainWord ∈ gw := in_gw 393 (by decide +kernel) rfl
theorem k_m_G_137 : Cond.methodLink R_G 137 y_Things_isNamed ∈ gw := in_gw 519 (by decide +kernel) rfl
theorem k_m_G_140 : Cond.methodLink R_G 140 y_Things_namesOf ∈ gw := in_gw 523 (by decide +kernel) rfl
theorem k_m_G_143 : Cond.methodLink R_G 143 y_Things_addName ∈ gw := in_gw 527 (by decide +kernel) rfl
theorem k_m_G_146 : Cond.methodLink R_G 146 y_Things_changeFlags ∈ gw := in_gw 537 (by decide +kernel) rfl
theorem k_m_G_149 : Cond.methodLink R_G 149 y_Values_find ∈ gw := in_gw 542 (by decide +kernel) rfl
theorem k_m_G_152 : Cond.methodLink R_G 152 y_Values_count ∈ gw := in_gw 552 (by decide +kernel) rfl
theorem k_m_G_156 : Cond.methodLink R_G 156 y_Values_put ∈ gw := in_gw 556 (by decide +kernel) rfl
theorem k_m_G_159 : Cond.methodLink R_G 159 y_G_isWord ∈ gw := in_gw 570 (by decide +kernel) rfl
theorem k_m_G_162 : Cond.methodLink R_G 162 y_Row_size ∈ gw := in_gw 573 (by decide +kernel) rfl
theorem k_m_G_165 : Cond.methodLink R_G 165 y_Row_add ∈ gw := in_gw 574 (by decide +kernel) rfl
theorem k_m_G_167 : Cond.methodLink R_G 167 y_Row_empty ∈ gw := in_gw 579 (by decide +kernel) rfl
theorem k_m_G_170 : Cond.methodLink R_G 170 y_G_takeOrder ∈ gw := in_gw 587 (by decide +kernel) rfl
theorem k_m_G_173 : Cond.methodLink R_G 173 y_G_takeCommand ∈ gw := in_gw 619 (by decide +kernel) rfl
theorem k_m_G_176 : Cond.methodLink R_G 176 y_G_chooseCommand ∈ gw := in_gw 630 (by decide +kernel) rfl
theorem k_m_G_179 : Cond.methodLink R_G 179 y_G_tryCommand ∈ gw := in_gw 641 (by decide +kernel) rfl
theorem k_m_G_182 : Cond.methodLink R_G 182 y_Report_begin ∈ gw := in_gw 645 (by decide +kernel) rfl
theorem k_m_G_185 : Cond.methodLink R_G 185 y_Report_fail ∈ gw := in_gw 787 (by decide +kernel) rfl
theorem k_m_G_189 : Cond.methodLink R_G 189 y_Report_isAsked ∈ gw := in_gw 788 (by decide +kernel) rfl
theorem k_m_G_192 : Cond.methodLink R_G 192 y_Verbs_find ∈ gw := in_gw 396 (by decide +kernel) rfl
theorem k_m_G_203 : Cond.methodLink R_G 203 y_Row_insert ∈ gw := in_gw 796 (by decide +kernel) rfl
theorem k_m_G_207 : Cond.methodLink R_G 207 y_Row_at ∈ gw := in_gw 607 (by decide +kernel) rfl
theorem k_m_G_216 : Cond.methodLink R_G 216 y_Lines_isReversed ∈ gw := in_gw 804 (by decide +kernel) rfl
theorem k_m_G_219 : Cond.methodLink R_G 219 y_Trial_slotsTaken ∈ gw := in_gw 808 (by decide +kernel) rfl
theorem k_m_G_246 : Cond.methodLink R_G 246 y_Verbs_count ∈ gw := in_gw 824 (by decide +kernel) rfl
theorem k_m_G_247 : Cond.methodLink R_G 247 y_Lines_count ∈ gw := in_gw 650 (by decide +kernel) rfl
theorem k_m_G_248 : Cond.methodLink R_G 248 y_Things_count ∈ gw := in_gw 828 (by decide +kernel) rfl
theorem k_m_G_255 : Cond.methodLink R_G 255 y_Phrase_find ∈ gw := in_gw 591 (by decide +kernel) rfl
theorem k_m_G_262 : Cond.methodLink R_G 262 y_JLong_bitCount ∈ gw := in_gw 601 (by decide +kernel) rfl
theorem k_m_G_274 : Cond.methodLink R_G 274 y_Row_dropFirst ∈ gw := in_gw 608 (by decide +kernel) rfl
theorem k_m_G_277 : Cond.methodLink R_G 277 y_Things_firstOf ∈ gw := in_gw 615 (by decide +kernel) rfl
theorem k_m_G_280 : Cond.methodLink R_G 280 y_G_endsCommand ∈ gw := in_gw 623 (by decide +kernel) rfl
theorem k_m_G_283 : Cond.methodLink R_G 283 y_G_isJoin ∈ gw := in_gw 627 (by decide +kernel) rfl
theorem k_m_G_286 : Cond.methodLink R_G 286 y_Row_put ∈ gw := in_gw 634 (by decide +kernel) rfl
theorem k_m_G_288 : Cond.methodLink R_G 288 y_Row_become ∈ gw := in_gw 635 (by decide +kernel) rfl
theorem k_m_G_292 : Cond.methodLink R_G 292 y_Lines_verbOf ∈ gw := in_gw 654 (by decide +kernel) rfl
theorem k_m_G_295 : Cond.methodLink R_G 295 y_Trial_tryLine ∈ gw := in_gw 658 (by decide +kernel) rfl
theorem k_m_G_298 : Cond.methodLink R_G 298 y_Lines_actionOf ∈ gw := in_gw 773 (by decide +kernel) rfl
theorem k_m_G_301 : Cond.methodLink R_G 301 y_Report_note ∈ gw := in_gw 777 (by decide +kernel) rfl
theorem k_m_G_39 : Cond.methodLink R_G 39 y_Row_init ∈ gw := in_gw 193 (by decide +kernel) rfl
theorem k_m_G_57 : Cond.methodLink R_G 57 y_Phrase_init ∈ gw := in_gw 196 (by decide +kernel) rfl
theorem k_m_G_66 : Cond.methodLink R_G 66 y_Trial_init ∈ gw := in_gw 217 (by decide +kernel) rfl
theorem k_m_G_87 : Cond.methodLink R_G 87 y_G_mayBeVerbWord ∈ gw := in_gw 389 (by decide +kernel) rfl
theorem k_m_G_91 : Cond.methodLink R_G 91 y_Verbs_isFull ∈ gw := in_gw 408 (by decide +kernel) rfl
theorem k_m_G_95 : Cond.methodLink R_G 95 y_Verbs_hasAllWords ∈ gw := in_gw 412 (by decide +kernel) rfl
theorem k_m_G_98 : Cond.methodLink R_G 98 y_Verbs_add ∈ gw := in_gw 416 (by decide +kernel) rfl
theorem k_m_L_12 : Cond.methodLink R_L 12 y_M_init ∈ gw := in_gw 842 (by decide +kernel) rfl
theorem k_m_L_13 : Cond.methodLink R_L 13 y_G_verb ∈ gw := in_gw 385 (by decide +kernel) rfl
theorem k_m_L_17 : Cond.methodLink R_L 17 y_M_verb ∈ gw := in_gw 1016 (by decide +kernel) rfl
theorem k_m_L_18 : Cond.methodLink R_L 18 y_G_like ∈ gw := in_gw 428 (by decide +kernel) rfl
theorem k_m_L_22 : Cond.methodLink R_L 22 y_M_like ∈ gw := in_gw 1034 (by decide +kernel) rfl
theorem k_m_L_23 : Cond.methodLink R_L 23 y_G_line ∈ gw := in_gw 437 (by decide +kernel) rfl
theorem k_m_L_27 : Cond.methodLink R_L 27 y_M_line ∈ gw := in_gw 1038 (by decide +kernel) rfl
theorem k_m_L_28 : Cond.methodLink R_L 28 y_G_token ∈ gw := in_gw 450 (by decide +kernel) rfl
theorem k_m_L_32 : Cond.methodLink R_L 32 y_M_token ∈ gw := in_gw 1042 (by decide +kernel) rfl
theorem k_m_L_33 : Cond.methodLink R_L 33 y_G_thing ∈ gw := in_gw 486 (by decide +kernel) rfl
theorem k_m_L_36 : Cond.methodLink R_L 36 y_M_thing ∈ gw := in_gw 1049 (by decide +kernel) rfl
theorem k_m_L_37 : Cond.methodLink R_L 37 y_G_name ∈ gw := in_gw 514 (by decide +kernel) rfl
theorem k_m_L_40 : Cond.methodLink R_L 40 y_M_name ∈ gw := in_gw 1053 (by decide +kernel) rfl
theorem k_m_L_41 : Cond.methodLink R_L 41 y_G_flags ∈ gw := in_gw 533 (by decide +kernel) rfl
theorem k_m_L_44 : Cond.methodLink R_L 44 y_M_flags ∈ gw := in_gw 1061 (by decide +kernel) rfl
theorem k_m_L_45 : Cond.methodLink R_L 45 y_G_custom ∈ gw := in_gw 538 (by decide +kernel) rfl
theorem k_m_L_48 : Cond.methodLink R_L 48 y_M_custom ∈ gw := in_gw 1065 (by decide +kernel) rfl
theorem k_m_L_49 : Cond.methodLink R_L 49 y_G_word ∈ gw := in_gw 566 (by decide +kernel) rfl
theorem k_m_L_52 : Cond.methodLink R_L 52 y_M_word ∈ gw := in_gw 1073 (by decide +kernel) rfl
theorem k_m_L_53 : Cond.methodLink R_L 53 y_G_clear ∈ gw := in_gw 575 (by decide +kernel) rfl
theorem k_m_L_57 : Cond.methodLink R_L 57 y_M_clear ∈ gw := in_gw 1080 (by decide +kernel) rfl
theorem k_m_L_58 : Cond.methodLink R_L 58 y_G_parse ∈ gw := in_gw 583 (by decide +kernel) rfl
theorem k_m_L_61 : Cond.methodLink R_L 61 y_M_parse ∈ gw := in_gw 1084 (by decide +kernel) rfl
theorem k_m_L_62 : Cond.methodLink R_L 62 y_G_answer ∈ gw := in_gw 792 (by decide +kernel) rfl
theorem k_m_L_65 : Cond.methodLink R_L 65 y_M_answer ∈ gw := in_gw 1208 (by decide +kernel) rfl
theorem k_m_L_66 : Cond.methodLink R_L 66 y_G_object ∈ gw := in_gw 800 (by decide +kernel) rfl
theorem k_m_L_69 : Cond.methodLink R_L 69 y_M_object ∈ gw := in_gw 1217 (by decide +kernel) rfl
theorem k_m_L_70 : Cond.methodLink R_L 70 y_G_asked ∈ gw := in_gw 812 (by decide +kernel) rfl
theorem k_m_L_73 : Cond.methodLink R_L 73 y_M_asked ∈ gw := in_gw 1221 (by decide +kernel) rfl
theorem k_m_L_74 : Cond.methodLink R_L 74 y_G_filled ∈ gw := in_gw 816 (by decide +kernel) rfl
theorem k_m_L_77 : Cond.methodLink R_L 77 y_M_filled ∈ gw := in_gw 1225 (by decide +kernel) rfl
theorem k_m_L_78 : Cond.methodLink R_L 78 y_G_told ∈ gw := in_gw 820 (by decide +kernel) rfl
theorem k_m_L_81 : Cond.methodLink R_L 81 y_M_told ∈ gw := in_gw 1229 (by decide +kernel) rfl
theorem k_m_L_82 : Cond.methodLink R_L 82 y_G_trace ∈ gw := in_gw 832 (by decide +kernel) rfl
theorem k_m_L_85 : Cond.methodLink R_L 85 y_M_trace ∈ gw := in_gw 1233 (by decide +kernel) rfl
theorem k_m_L_86 : Cond.methodLink R_L 86 y_G_said ∈ gw := in_gw 836 (by decide +kernel) rfl
theorem k_m_L_89 : Cond.methodLink R_L 89 y_M_said ∈ gw := in_gw 1237 (by decide +kernel) rfl
theorem k_m_L_9 : Cond.methodLink R_L 9 y_G_init ∈ gw := in_gw 73 (by decide +kernel) rfl
theorem k_m_Lines_3 : Cond.methodLink R_Lines 3 objectInit ∈ gw := in_gw 150 (by decide +kernel) rfl
theorem k_m_Lines_35 : Cond.methodLink R_Lines 35 y_Lines_isFull ∈ gw := in_gw 449 (by decide +kernel) rfl
theorem k_m_Lines_39 : Cond.methodLink R_Lines 39 y_Lines_has ∈ gw := in_gw 469 (by decide +kernel) rfl
theorem k_m_Lines_43 : Cond.methodLink R_Lines 43 y_Lines_kindsOf ∈ gw := in_gw 465 (by decide +kernel) rfl
theorem k_m_Lines_47 : Cond.methodLink R_Lines 47 y_Lines_kindAt ∈ gw := in_gw 470 (by decide +kernel) rfl
theorem k_m_Lines_54 : Cond.methodLink R_Lines 54 y_Lines_slotsOf ∈ gw := in_gw 477 (by decide +kernel) rfl
theorem k_m_Lines_57 : Cond.methodLink R_Lines 57 y_Lines_ofAt ∈ gw := in_gw 718 (by decide +kernel) rfl
theorem k_m_M_1 : Cond.methodLink R_M 1 objectInit ∈ gw := in_gw 845 (by decide +kernel) rfl
theorem k_m_M_112 : Cond.methodLink R_M 112 y_M_within ∈ gw := in_gw 1023 (by decide +kernel) rfl
theorem k_m_M_119 : Cond.methodLink R_M 119 y_M_isPlain ∈ gw := in_gw 1020 (by decide +kernel) rfl
theorem k_m_M_123 : Cond.methodLink R_M 123 y_M_verbBy ∈ gw := in_gw 1026 (by decide +kernel) rfl
theorem k_m_M_130 : Cond.methodLink R_M 130 y_M_isOfVerb ∈ gw := in_gw 1030 (by decide +kernel) rfl
theorem k_m_M_137 : Cond.methodLink R_M 137 y_M_isSlot ∈ gw := in_gw 1046 (by decide +kernel) rfl
theorem k_m_M_143 : Cond.methodLink R_M 143 y_M_hasName ∈ gw := in_gw 1057 (by decide +kernel) rfl
theorem k_m_M_150 : Cond.methodLink R_M 150 y_M_pairOf ∈ gw := in_gw 1069 (by decide +kernel) rfl
theorem k_m_M_154 : Cond.methodLink R_M 154 y_M_isAny ∈ gw := in_gw 1077 (by decide +kernel) rfl
theorem k_m_M_160 : Cond.methodLink R_M 160 y_M_isHeld ∈ gw := in_gw 1104 (by decide +kernel) rfl
theorem k_m_M_163 : Cond.methodLink R_M 163 y_M_has ∈ gw := in_gw 1112 (by decide +kernel) rfl
theorem k_m_M_174 : Cond.methodLink R_M 174 y_M_isInScope ∈ gw := in_gw 1100 (by decide +kernel) rfl
theorem k_m_M_177 : Cond.methodLink R_M 177 y_M_stands ∈ gw := in_gw 1123 (by decide +kernel) rfl
theorem k_m_M_189 : Cond.methodLink R_M 189 y_M_next ∈ gw := in_gw 1167 (by decide +kernel) rfl
theorem k_m_M_198 : Cond.methodLink R_M 198 y_M_ends ∈ gw := in_gw 1143 (by decide +kernel) rfl
theorem k_m_M_201 : Cond.methodLink R_M 201 y_M_takes ∈ gw := in_gw 1171 (by decide +kernel) rfl
theorem k_m_M_205 : Cond.methodLink R_M 205 y_M_fails ∈ gw := in_gw 1147 (by decide +kernel) rfl
theorem k_m_M_208 : Cond.methodLink R_M 208 y_M_others ∈ gw := in_gw 1200 (by decide +kernel) rfl
theorem k_m_M_211 : Cond.methodLink R_M 211 y_M_isOneOf ∈ gw := in_gw 1175 (by decide +kernel) rfl
theorem k_m_M_214 : Cond.methodLink R_M 214 y_M_slot ∈ gw := in_gw 1163 (by decide +kernel) rfl
theorem k_m_M_217 : Cond.methodLink R_M 217 y_M_takesOne ∈ gw := in_gw 1179 (by decide +kernel) rfl
theorem k_m_M_220 : Cond.methodLink R_M 220 y_M_joins ∈ gw := in_gw 1183 (by decide +kernel) rfl
theorem k_m_M_223 : Cond.methodLink R_M 223 y_M_takesSeveral ∈ gw := in_gw 1187 (by decide +kernel) rfl
theorem k_m_M_226 : Cond.methodLink R_M 226 y_M_takesTopic ∈ gw := in_gw 1196 (by decide +kernel) rfl
theorem k_m_M_229 : Cond.methodLink R_M 229 y_M_phrase ∈ gw := in_gw 1096 (by decide +kernel) rfl
theorem k_m_M_232 : Cond.methodLink R_M 232 y_M_isWorn ∈ gw := in_gw 1159 (by decide +kernel) rfl
theorem k_m_M_235 : Cond.methodLink R_M 235 y_M_isCreature ∈ gw := in_gw 1119 (by decide +kernel) rfl
theorem k_m_M_238 : Cond.methodLink R_M 238 y_M_manyOf ∈ gw := in_gw 1108 (by decide +kernel) rfl
theorem k_m_M_250 : Cond.methodLink R_M 250 y_M_lacksOne ∈ gw := in_gw 1192 (by decide +kernel) rfl
theorem k_m_M_253 : Cond.methodLink R_M 253 y_M_isFilled ∈ gw := in_gw 1151 (by decide +kernel) rfl
theorem k_m_M_259 : Cond.methodLink R_M 259 y_M_goesWith ∈ gw := in_gw 1155 (by decide +kernel) rfl
theorem k_m_M_262 : Cond.methodLink R_M 262 y_M_thingOf ∈ gw := in_gw 1115 (by decide +kernel) rfl
theorem k_m_M_275 : Cond.methodLink R_M 275 y_M_take ∈ gw := in_gw 1092 (by decide +kernel) rfl
theorem k_m_M_279 : Cond.methodLink R_M 279 y_M_tries ∈ gw := in_gw 1139 (by decide +kernel) rfl
theorem k_m_M_283 : Cond.methodLink R_M 283 y_M_without ∈ gw := in_gw 1204 (by decide +kernel) rfl
theorem k_m_M_299 : Cond.methodLink R_M 299 y_M_off ∈ gw := in_gw 1127 (by decide +kernel) rfl
theorem k_m_M_302 : Cond.methodLink R_M 302 y_M_order ∈ gw := in_gw 1088 (by decide +kernel) rfl
theorem k_m_M_305 : Cond.methodLink R_M 305 y_M_begins ∈ gw := in_gw 1131 (by decide +kernel) rfl
theorem k_m_M_308 : Cond.methodLink R_M 308 y_M_isTried ∈ gw := in_gw 1135 (by decide +kernel) rfl
theorem k_m_M_312 : Cond.methodLink R_M 312 y_M_parse ∈ gw := in_gw 1212 (by decide +kernel) rfl
theorem k_m_M_315 : Cond.methodLink R_M 315 y_M_comesIn ∈ gw := in_gw 1213 (by decide +kernel) rfl
theorem k_m_Phrase_1 : Cond.methodLink R_Phrase 1 objectInit ∈ gw := in_gw 199 (by decide +kernel) rfl
theorem k_m_Phrase_26 : Cond.methodLink R_Phrase 26 y_Row_size ∈ gw := in_gw 595 (by decide +kernel) rfl
theorem k_m_Phrase_32 : Cond.methodLink R_Phrase 32 y_Row_at ∈ gw := in_gw 596 (by decide +kernel) rfl
theorem k_m_Phrase_36 : Cond.methodLink R_Phrase 36 y_Things_namedOf ∈ gw := in_gw 597 (by decide +kernel) rfl
theorem k_m_Report_11 : Cond.methodLink R_Report 11 y_Row_init ∈ gw := in_gw 307 (by decide +kernel) rfl
theorem k_m_Report_3 : Cond.methodLink R_Report 3 objectInit ∈ gw := in_gw 305 (by decide +kernel) rfl
theorem k_m_Report_39 : Cond.methodLink R_Report 39 y_Row_empty ∈ gw := in_gw 649 (by decide +kernel) rfl
theorem k_m_Report_48 : Cond.methodLink R_Report 48 y_Row_add ∈ gw := in_gw 781 (by decide +kernel) rfl
theorem k_m_Report_53 : Cond.methodLink R_Report 53 y_Report_fail ∈ gw := in_gw 782 (by decide +kernel) rfl
theorem k_m_Report_58 : Cond.methodLink R_Report 58 y_Row_become ∈ gw := in_gw 786 (by decide +kernel) rfl
theorem k_m_Row_25 : Cond.methodLink R_Row 25 Lib.Math.min.name ∈ gw := in_gw 612 (by decide +kernel) rfl
theorem k_m_Row_28 : Cond.methodLink R_Row 28 y_Row_empty ∈ gw := in_gw 639 (by decide +kernel) rfl
theorem k_m_Row_3 : Cond.methodLink R_Row 3 objectInit ∈ gw := in_gw 124 (by decide +kernel) rfl
theorem k_m_Row_31 : Cond.methodLink R_Row 31 y_Row_add ∈ gw := in_gw 640 (by decide +kernel) rfl
theorem k_m_Row_9 : Cond.methodLink R_Row 9 Lib.Math.max.name ∈ gw := in_gw 125 (by decide +kernel) rfl
theorem k_m_Slot_11 : Cond.methodLink R_Slot 11 y_Row_init ∈ gw := in_gw 228 (by decide +kernel) rfl
theorem k_m_Slot_27 : Cond.methodLink R_Slot 27 y_Row_empty ∈ gw := in_gw 670 (by decide +kernel) rfl
theorem k_m_Slot_3 : Cond.methodLink R_Slot 3 objectInit ∈ gw := in_gw 226 (by decide +kernel) rfl
theorem k_m_Things_25 : Cond.methodLink R_Things 25 y_Things_isFull ∈ gw := in_gw 501 (by decide +kernel) rfl
theorem k_m_Things_29 : Cond.methodLink R_Things 29 y_Things_changeFlags ∈ gw := in_gw 502 (by decide +kernel) rfl
theorem k_m_Things_3 : Cond.methodLink R_Things 3 objectInit ∈ gw := in_gw 84 (by decide +kernel) rfl
theorem k_m_Things_33 : Cond.methodLink R_Things 33 y_Things_has ∈ gw := in_gw 506 (by decide +kernel) rfl
theorem k_m_Things_37 : Cond.methodLink R_Things 37 y_Things_withAnyOf ∈ gw := in_gw 510 (by decide +kernel) rfl
theorem k_m_Things_54 : Cond.methodLink R_Things 54 y_Things_isNamed ∈ gw := in_gw 531 (by decide +kernel) rfl
theorem k_m_Things_58 : Cond.methodLink R_Things 58 y_Things_namesOf ∈ gw := in_gw 532 (by decide +kernel) rfl
theorem k_m_Trial_102 : Cond.methodLink R_Trial 102 y_Lines_ofAt ∈ gw := in_gw 691 (by decide +kernel) rfl
theorem k_m_Trial_105 : Cond.methodLink R_Trial 105 y_Trial_takeCustom ∈ gw := in_gw 727 (by decide +kernel) rfl
theorem k_m_Trial_112 : Cond.methodLink R_Trial 112 y_Trial_takeOne ∈ gw := in_gw 735 (by decide +kernel) rfl
theorem k_m_Trial_115 : Cond.methodLink R_Trial 115 y_Row_at ∈ gw := in_gw 713 (by decide +kernel) rfl
theorem k_m_Trial_118 : Cond.methodLink R_Trial 118 y_Trial_takeAll ∈ gw := in_gw 753 (by decide +kernel) rfl
theorem k_m_Trial_121 : Cond.methodLink R_Trial 121 y_Trial_takeList ∈ gw := in_gw 761 (by decide +kernel) rfl
theorem k_m_Trial_124 : Cond.methodLink R_Trial 124 y_Trial_finish ∈ gw := in_gw 765 (by decide +kernel) rfl
theorem k_m_Trial_127 : Cond.methodLink R_Trial 127 y_Slot_empty ∈ gw := in_gw 666 (by decide +kernel) rfl
theorem k_m_Trial_130 : Cond.methodLink R_Trial 130 y_Row_empty ∈ gw := in_gw 671 (by decide +kernel) rfl
theorem k_m_Trial_132 : Cond.methodLink R_Trial 132 y_Lines_takes ∈ gw := in_gw 714 (by decide +kernel) rfl
theorem k_m_Trial_136 : Cond.methodLink R_Trial 136 y_Trial_fail ∈ gw := in_gw 683 (by decide +kernel) rfl
theorem k_m_Trial_140 : Cond.methodLink R_Trial 140 y_Trial_openSlot ∈ gw := in_gw 704 (by decide +kernel) rfl
theorem k_m_Trial_147 : Cond.methodLink R_Trial 147 y_Row_add ∈ gw := in_gw 695 (by decide +kernel) rfl
theorem k_m_Trial_150 : Cond.methodLink R_Trial 150 y_Values_find ∈ gw := in_gw 731 (by decide +kernel) rfl
theorem k_m_Trial_155 : Cond.methodLink R_Trial 155 y_Trial_findOne ∈ gw := in_gw 739 (by decide +kernel) rfl
theorem k_m_Trial_165 : Cond.methodLink R_Trial 165 y_Phrase_find ∈ gw := in_gw 743 (by decide +kernel) rfl
theorem k_m_Trial_171 : Cond.methodLink R_Trial 171 y_Things_countedFor ∈ gw := in_gw 744 (by decide +kernel) rfl
theorem k_m_Trial_176 : Cond.methodLink R_Trial 176 y_JLong_bitCount ∈ gw := in_gw 703 (by decide +kernel) rfl
theorem k_m_Trial_182 : Cond.methodLink R_Trial 182 y_Row_addThings ∈ gw := in_gw 748 (by decide +kernel) rfl
theorem k_m_Trial_189 : Cond.methodLink R_Trial 189 y_Things_allFor ∈ gw := in_gw 757 (by decide +kernel) rfl
theorem k_m_Trial_194 : Cond.methodLink R_Trial 194 y_Lines_slotFrom ∈ gw := in_gw 679 (by decide +kernel) rfl
theorem k_m_Trial_197 : Cond.methodLink R_Trial 197 y_Trial_fillFrom ∈ gw := in_gw 687 (by decide +kernel) rfl
theorem k_m_Trial_203 : Cond.methodLink R_Trial 203 y_Things_fillersFor ∈ gw := in_gw 697 (by decide +kernel) rfl
theorem k_m_Trial_206 : Cond.methodLink R_Trial 206 y_Things_firstOf ∈ gw := in_gw 708 (by decide +kernel) rfl
theorem k_m_Trial_209 : Cond.methodLink R_Trial 209 y_Trial_takeOut ∈ gw := in_gw 769 (by decide +kernel) rfl
theorem k_m_Trial_23 : Cond.methodLink R_Trial 23 y_Row_init ∈ gw := in_gw 249 (by decide +kernel) rfl
theorem k_m_Trial_3 : Cond.methodLink R_Trial 3 objectInit ∈ gw := in_gw 220 (by decide +kernel) rfl
theorem k_m_Trial_57 : Cond.methodLink R_Trial 57 y_Phrase_init ∈ gw := in_gw 251 (by decide +kernel) rfl
theorem k_m_Trial_67 : Cond.methodLink R_Trial 67 y_Trial_begin ∈ gw := in_gw 662 (by decide +kernel) rfl
theorem k_m_Trial_70 : Cond.methodLink R_Trial 70 y_Lines_kindsOf ∈ gw := in_gw 672 (by decide +kernel) rfl
theorem k_m_Trial_79 : Cond.methodLink R_Trial 79 y_Lines_kindAt ∈ gw := in_gw 673 (by decide +kernel) rfl
theorem k_m_Trial_86 : Cond.methodLink R_Trial 86 y_Row_size ∈ gw := in_gw 674 (by decide +kernel) rfl
theorem k_m_Trial_90 : Cond.methodLink R_Trial 90 y_Trial_fillOrAsk ∈ gw := in_gw 675 (by decide +kernel) rfl
theorem k_m_Trial_93 : Cond.methodLink R_Trial 93 y_Trial_takeWord ∈ gw := in_gw 709 (by decide +kernel) rfl
theorem k_m_Trial_96 : Cond.methodLink R_Trial 96 y_Trial_takeTopic ∈ gw := in_gw 719 (by decide +kernel) rfl
theorem k_m_Trial_99 : Cond.methodLink R_Trial 99 y_Trial_takeNumber ∈ gw := in_gw 723 (by decide +kernel) rfl
theorem k_m_Values_11 : Cond.methodLink R_Values 11 y_Row_init ∈ gw := in_gw 181 (by decide +kernel) rfl
theorem k_m_Values_26 : Cond.methodLink R_Values 26 y_Row_size ∈ gw := in_gw 550 (by decide +kernel) rfl
theorem k_m_Values_3 : Cond.methodLink R_Values 3 objectInit ∈ gw := in_gw 179 (by decide +kernel) rfl
theorem k_m_Values_30 : Cond.methodLink R_Values 30 y_Row_at ∈ gw := in_gw 551 (by decide +kernel) rfl
theorem k_m_Values_34 : Cond.methodLink R_Values 34 y_Values_indexOf ∈ gw := in_gw 546 (by decide +kernel) rfl
theorem k_m_Values_38 : Cond.methodLink R_Values 38 y_Row_add ∈ gw := in_gw 560 (by decide +kernel) rfl
theorem k_m_Values_41 : Cond.methodLink R_Values 41 y_Row_put ∈ gw := in_gw 561 (by decide +kernel) rfl
theorem k_m_Values_45 : Cond.methodLink R_Values 45 y_Values_count ∈ gw := in_gw 565 (by decide +kernel) rfl
theorem k_m_Verbs_11 : Cond.methodLink R_Verbs 11 y_Row_init ∈ gw := in_gw 121 (by decide +kernel) rfl
theorem k_m_Verbs_27 : Cond.methodLink R_Verbs 27 y_Row_size ∈ gw := in_gw 400 (by decide +kernel) rfl
theorem k_m_Verbs_3 : Cond.methodLink R_Verbs 3 objectInit ∈ gw := in_gw 118 (by decide +kernel) rfl
theorem k_m_Verbs_31 : Cond.methodLink R_Verbs 31 y_Verbs_addWord ∈ gw := in_gw 420 (by decide +kernel) rfl
theorem k_m_Verbs_35 : Cond.methodLink R_Verbs 35 y_Row_add ∈ gw := in_gw 424 (by decide +kernel) rfl
theorem k_m_Verbs_38 : Cond.methodLink R_Verbs 38 y_Row_at ∈ gw := in_gw 404 (by decide +kernel) rfl
theorem k_mn_G_18 : Cond.methodLinkNest R_G 18 y_Verbs_init "GrammarLines" ∈ nw := in_nw 115 (by decide +kernel) rfl
theorem k_mn_G_25 : Cond.methodLinkNest R_G 25 y_Lines_init "GrammarLines" ∈ nw := in_nw 147 (by decide +kernel) rfl
theorem k_mn_G_32 : Cond.methodLinkNest R_G 32 y_Values_init "GrammarLines" ∈ nw := in_nw 176 (by decide +kernel) rfl
theorem k_mn_G_75 : Cond.methodLinkNest R_G 75 y_Report_init "GrammarLines" ∈ nw := in_nw 302 (by decide +kernel) rfl
theorem k_mn_G_9 : Cond.methodLinkNest R_G 9 y_Things_init "GrammarLines" ∈ nw := in_nw 81 (by decide +kernel) rfl
theorem k_mn_Lines_51 : Cond.methodLinkNest R_Lines 51 y_G_isSlot "GrammarLines" ∈ nw := in_nw 474 (by decide +kernel) rfl
theorem k_mn_Trial_108 : Cond.methodLinkNest R_Trial 108 y_G_isOfOneThing "GrammarLines" ∈ nw := in_nw 732 (by decide +kernel) rfl
theorem k_mn_Trial_11 : Cond.methodLinkNest R_Trial 11 y_Slot_init "GrammarLines" ∈ nw := in_nw 223 (by decide +kernel) rfl
theorem k_mn_Trial_162 : Cond.methodLinkNest R_Trial 162 y_G_isJoin "GrammarLines" ∈ nw := in_nw 752 (by decide +kernel) rfl
theorem k_mn_Trial_200 : Cond.methodLinkNest R_Trial 200 y_G_isSlot "GrammarLines" ∈ nw := in_nw 696 (by decide +kernel) rfl
theorem k_static_JMath_max : Cond.static Lib.Math.max.name ∈ gw := in_gw 126 (by decide +kernel) rfl
theorem k_static_JMath_min : Cond.static Lib.Math.min.name ∈ gw := in_gw 613 (by decide +kernel) rfl
end
section
theorem d_G_isPlainWord_0 : decode b_G_isPlainWord 0 = .ok (.iload_n 0, 1) := by decide +kernel
theorem d_G_isPlainWord_1 : decode b_G_isPlainWord 1 = .ok (.bipush 10, 2) := by decide +kernel
theorem d_G_isPlainWord_3 : decode b_G_isPlainWord 3 = .ok (.if_icmp .lt 14, 3) := by decide +kernel
theorem d_G_isPlainWord_6 : decode b_G_isPlainWord 6 = .ok (.iload_n 0, 1) := by decide +kernel
theorem d_G_isPlainWord_7 : decode b_G_isPlainWord 7 = .ok (.sipush 9999, 3) := by decide +kernel
theorem d_G_isPlainWord_10 : decode b_G_isPlainWord 10 = .ok (.if_icmp .gt 7, 3) := by decide +kernel
theorem d_G_isPlainWord_13 : decode b_G_isPlainWord 13 = .ok (.iconst 1, 1) := by decide +kernel
theorem d_G_isPlainWord_14 : decode b_G_isPlainWord 14 = .ok (.goto 4, 3) := by decide +kernel
theorem d_G_isPlainWord_17 : decode b_G_isPlainWord 17 = .ok (.iconst 0, 1) := by decide +kernel
theorem d_G_isPlainWord_18 : decode b_G_isPlainWord 18 = .ok (.ireturn, 1) := by decide +kernel
theorem d_Row_size_0 : decode b_Row_size 0 = .ok (.aload_n 0, 1) := by decide +kernel
theorem d_Row_size_1 : decode b_Row_size 1 = .ok (.getfield 21, 3) := by decide +kernel
theorem d_Row_size_4 : decode b_Row_size 4 = .ok (.ireturn, 1) := by decide +kernel
theorem d_Row_at_0 : decode b_Row_at 0 = .ok (.iload_n 1, 1) := by decide +kernel
theorem d_Row_at_1 : decode b_Row_at 1 = .ok (.ifCond .lt 20, 3) := by decide +kernel
theorem d_Row_at_4 : decode b_Row_at 4 = .ok (.iload_n 1, 1) := by decide +kernel
theorem d_Row_at_5 : decode b_Row_at 5 = .ok (.aload_n 0, 1) := by decide +kernel
theorem d_Row_at_6 : decode b_Row_at 6 = .ok (.getfield 21, 3) := by decide +kernel
theorem d_Row_at_9 : decode b_Row_at 9 = .ok (.if_icmp .ge 12, 3) := by decide +kernel
theorem d_Row_at_12 : decode b_Row_at 12 = .ok (.aload_n 0, 1) := by decide +kernel
theorem d_Row_at_13 : decode b_Row_at 13 = .ok (.getfield 15, 3) := by decide +kernel
theorem d_Row_at_16 : decode b_Row_at 16 = .ok (.iload_n 1, 1) := by decide +kernel
theorem d_Row_at_17 : decode b_Row_at 17 = .ok (.iaload, 1) := by decide +kernel
theorem d_Row_at_18 : decode b_Row_at 18 = .ok (.goto 4, 3) := by decide +kernel
theorem d_Row_at_21 : decode b_Row_at 21 = .ok (.iconst (-1), 1) := by decide +kernel
theorem d_Row_at_22 : decode b_Row_at 22 = .ok (.ireturn, 1) := by decide +kernel
theorem d_Verbs_find_0 : decode b_Verbs_find 0 = .ok (.iconst 0, 1) := by decide +kernel
theorem d_Verbs_find_1 : decode b_Verbs_find 1 = .ok (.istore_n 2, 1) := by decide +kernel
theorem d_Verbs_find_2 : decode b_Verbs_find 2 = .ok (.iload_n 2, 1) := by decide +kernel
theorem d_Verbs_find_3 : decode b_Verbs_find 3 = .ok (.aload_n 0, 1) := by decide +kernel
theorem d_Verbs_find_4 : decode b_Verbs_find 4 = .ok (.getfield 14, 3) := by decide +kernel
theorem d_Verbs_find_7 : decode b_Verbs_find 7 = .ok (.invokevirtual 27, 3) := by decide +kernel
theorem d_Verbs_find_10 : decode b_Verbs_find 10 = .ok (.if_icmp .ge 30, 3) := by decide +kernel
theorem d_Verbs_find_13 : decode b_Verbs_find 13 = .ok (.aload_n 0, 1) := by decide +kernel
theorem d_Verbs_find_14 : decode b_Verbs_find 14 = .ok (.getfield 14, 3) := by decide +kernel
theorem d_Verbs_find_17 : decode b_Verbs_find 17 = .ok (.iload_n 2, 1) := by decide +kernel
theorem d_Verbs_find_18 : decode b_Verbs_find 18 = .ok (.invokevirtual 38, 3) := by decide +kernel
theorem d_Verbs_find_21 : decode b_Verbs_find 21 = .ok (.iload_n 1, 1) := by decide +kernel
theorem d_Verbs_find_22 : decode b_Verbs_find 22 = .ok (.if_icmp .ne 12, 3) := by decide +kernel
theorem d_Verbs_find_25 : decode b_Verbs_find 25 = .ok (.aload_n 0, 1) := by decide +kernel
theorem d_Verbs_find_26 : decode b_Verbs_find 26 = .ok (.getfield 20, 3) := by decide +kernel
theorem d_Verbs_find_29 : decode b_Verbs_find 29 = .ok (.iload_n 2, 1) := by decide +kernel
theorem d_Verbs_find_30 : decode b_Verbs_find 30 = .ok (.invokevirtual 38, 3) := by decide +kernel
theorem d_Verbs_find_33 : decode b_Verbs_find 33 = .ok (.ireturn, 1) := by decide +kernel
theorem d_Verbs_find_34 : decode b_Verbs_find 34 = .ok (.iinc 2 1, 3) := by decide +kernel
theorem d_Verbs_find_37 : decode b_Verbs_find 37 = .ok (.goto (-35), 3) := by decide +kernel
theorem d_Verbs_find_40 : decode b_Verbs_find 40 = .ok (.iconst (-1), 1) := by decide +kernel
theorem d_Verbs_find_41 : decode b_Verbs_find 41 = .ok (.ireturn, 1) := by decide +kernel
theorem d_G_mayBeVerbWord_0 : decode b_G_mayBeVerbWord 0 = .ok (.iload_n 1, 1) := by decide +kernel
theorem d_G_mayBeVerbWord_1 : decode b_G_mayBeVerbWord 1 = .ok (.invokestatic 134, 3) := by decide +kernel
theorem d_G_mayBeVerbWord_4 : decode b_G_mayBeVerbWord 4 = .ok (.ifCond .eq 19, 3) := by decide +kernel
theorem d_G_mayBeVerbWord_7 : decode b_G_mayBeVerbWord 7 = .ok (.aload_n 0, 1) := by decide +kernel
theorem d_G_mayBeVerbWord_8 : decode b_G_mayBeVerbWord 8 = .ok (.getfield 19, 3) := by decide +kernel
theorem d_G_mayBeVerbWord_11 : decode b_G_mayBeVerbWord 11 = .ok (.iload_n 1, 1) := by decide +kernel
theorem d_G_mayBeVerbWord_12 : decode b_G_mayBeVerbWord 12 = .ok (.invokevirtual 192, 3) := by decide +kernel
theorem d_G_mayBeVerbWord_15 : decode b_G_mayBeVerbWord 15 = .ok (.iconst (-1), 1) := by decide +kernel
theorem d_G_mayBeVerbWord_16 : decode b_G_mayBeVerbWord 16 = .ok (.if_icmp .ne 7, 3) := by decide +kernel
theorem d_G_mayBeVerbWord_19 : decode b_G_mayBeVerbWord 19 = .ok (.iconst 1, 1) := by decide +kernel
theorem d_G_mayBeVerbWord_20 : decode b_G_mayBeVerbWord 20 = .ok (.goto 4, 3) := by decide +kernel
theorem d_G_mayBeVerbWord_23 : decode b_G_mayBeVerbWord 23 = .ok (.iconst 0, 1) := by decide +kernel
theorem d_G_mayBeVerbWord_24 : decode b_G_mayBeVerbWord 24 = .ok (.ireturn, 1) := by decide +kernel
theorem d_Verbs_isFull_0 : decode b_Verbs_isFull 0 = .ok (.aload_n 0, 1) := by decide +kernel
theorem d_Verbs_isFull_1 : decode b_Verbs_isFull 1 = .ok (.getfield 23, 3) := by decide +kernel
theorem d_Verbs_isFull_4 : decode b_Verbs_isFull 4 = .ok (.bipush 20, 2) := by decide +kernel
theorem d_Verbs_isFull_6 : decode b_Verbs_isFull 6 = .ok (.if_icmp .lt 7, 3) := by decide +kernel
theorem d_Verbs_isFull_9 : decode b_Verbs_isFull 9 = .ok (.iconst 1, 1) := by decide +kernel
theorem d_Verbs_isFull_10 : decode b_Verbs_isFull 10 = .ok (.goto 4, 3) := by decide +kernel
theorem d_Verbs_isFull_13 : decode b_Verbs_isFull 13 = .ok (.iconst 0, 1) := by decide +kernel
theorem d_Verbs_isFull_14 : decode b_Verbs_isFull 14 = .ok (.ireturn, 1) := by decide +kernel
theorem d_Verbs_hasAllWords_0 : decode b_Verbs_hasAllWords 0 = .ok (.aload_n 0, 1) := by decide +kernel
theorem d_Verbs_hasAllWords_1 : decode b_Verbs_hasAllWords 1 = .ok (.getfield 14, 3) := by decide +kernel
theorem d_Verbs_hasAllWords_4 : decode b_Verbs_hasAllWords 4 = .ok (.invokevirtual 27, 3) := by decide +kernel
theorem d_Verbs_hasAllWords_7 : decode b_Verbs_hasAllWords 7 = .ok (.bipush 60, 2) := by decide +kernel
theorem d_Verbs_hasAllWords_9 : decode b_Verbs_hasAllWords 9 = .ok (.if_icmp .lt 7, 3) := by decide +kernel
theorem d_Verbs_hasAllWords_12 : decode b_Verbs_hasAllWords 12 = .ok (.iconst 1, 1) := by decide +kernel
theorem d_Verbs_hasAllWords_13 : decode b_Verbs_hasAllWords 13 = .ok (.goto 4, 3) := by decide +kernel
theorem d_Verbs_hasAllWords_16 : decode b_Verbs_hasAllWords 16 = .ok (.iconst 0, 1) := by decide +kernel
theorem d_Verbs_hasAllWords_17 : decode b_Verbs_hasAllWords 17 = .ok (.ireturn, 1) := by decide +kernel
theorem d_Row_add_0 : decode b_Row_add 0 = .ok (.aload_n 0, 1) := by decide +kernel
theorem d_Row_add_1 : decode b_Row_add 1 = .ok (.getfield 21, 3) := by decide +kernel
theorem d_Row_add_4 : decode b_Row_add 4 = .ok (.ifCond .lt 35, 3) := by decide +kernel
theorem d_Row_add_7 : decode b_Row_add 7 = .ok (.aload_n 0, 1) := by decide +kernel
theorem d_Row_add_8 : decode b_Row_add 8 = .ok (.getfield 21, 3) := by decide +kernel
theorem d_Row_add_11 : decode b_Row_add 11 = .ok (.aload_n 0, 1) := by decide +kernel
theorem d_Row_add_12 : decode b_Row_add 12 = .ok (.getfield 15, 3) := by decide +kernel
theorem d_Row_add_15 : decode b_Row_add 15 = .ok (.arraylength, 1) := by decide +kernel
theorem d_Row_add_16 : decode b_Row_add 16 = .ok (.if_icmp .ge 23, 3) := by decide +kernel
theorem d_Row_add_19 : decode b_Row_add 19 = .ok (.aload_n 0, 1) := by decide +kernel
theorem d_Row_add_20 : decode b_Row_add 20 = .ok (.getfield 15, 3) := by decide +kernel
theorem d_Row_add_23 : decode b_Row_add 23 = .ok (.aload_n 0, 1) := by decide +kernel
theorem d_Row_add_24 : decode b_Row_add 24 = .ok (.getfield 21, 3) := by decide +kernel
theorem d_Row_add_27 : decode b_Row_add 27 = .ok (.iload_n 1, 1) := by decide +kernel
theorem d_Row_add_28 : decode b_Row_add 28 = .ok (.iastore, 1) := by decide +kernel
theorem d_Row_add_29 : decode b_Row_add 29 = .ok (.aload_n 0, 1) := by decide +kernel
theorem d_Row_add_30 : decode b_Row_add 30 = .ok (.dup, 1) := by decide +kernel
theorem d_Row_add_31 : decode b_Row_add 31 = .ok (.getfield 21, 3) := by decide +kernel
theorem d_Row_add_34 : decode b_Row_add 34 = .ok (.iconst 1, 1) := by decide +kernel
theorem d_Row_add_35 : decode b_Row_add 35 = .ok (.iadd, 1) := by decide +kernel
theorem d_Row_add_36 : decode b_Row_add 36 = .ok (.putfield 21, 3) := by decide +kernel
theorem d_Row_add_39 : decode b_Row_add 39 = .ok (.return_, 1) := by decide +kernel
theorem d_Verbs_addWord_0 : decode b_Verbs_addWord 0 = .ok (.aload_n 0, 1) := by decide +kernel
theorem d_Verbs_addWord_1 : decode b_Verbs_addWord 1 = .ok (.getfield 14, 3) := by decide +kernel
theorem d_Verbs_addWord_4 : decode b_Verbs_addWord 4 = .ok (.iload_n 2, 1) := by decide +kernel
theorem d_Verbs_addWord_5 : decode b_Verbs_addWord 5 = .ok (.invokevirtual 35, 3) := by decide +kernel
theorem d_Verbs_addWord_8 : decode b_Verbs_addWord 8 = .ok (.aload_n 0, 1) := by decide +kernel
theorem d_Verbs_addWord_9 : decode b_Verbs_addWord 9 = .ok (.getfield 20, 3) := by decide +kernel
theorem d_Verbs_addWord_12 : decode b_Verbs_addWord 12 = .ok (.iload_n 1, 1) := by decide +kernel
theorem d_Verbs_addWord_13 : decode b_Verbs_addWord 13 = .ok (.invokevirtual 35, 3) := by decide +kernel
theorem d_Verbs_addWord_16 : decode b_Verbs_addWord 16 = .ok (.iconst 0, 1) := by decide +kernel
theorem d_Verbs_addWord_17 : decode b_Verbs_addWord 17 = .ok (.istore_n 3, 1) := by decide +kernel
theorem d_Verbs_addWord_18 : decode b_Verbs_addWord 18 = .ok (.iconst 0, 1) := by decide +kernel
theorem d_Verbs_addWord_19 : decode b_Verbs_addWord 19 = .ok (.istore 4, 2) := by decide +kernel
theorem d_Verbs_addWord_21 : decode b_Verbs_addWord 21 = .ok (.iload 4, 2) := by decide +kernel
theorem d_Verbs_addWord_23 : decode b_Verbs_addWord 23 = .ok (.aload_n 0, 1) := by decide +kernel
theorem d_Verbs_addWord_24 : decode b_Verbs_addWord 24 = .ok (.getfield 20, 3) := by decide +kernel
theorem d_Verbs_addWord_27 : decode b_Verbs_addWord 27 = .ok (.invokevirtual 27, 3) := by decide +kernel
theorem d_Verbs_addWord_30 : decode b_Verbs_addWord 30 = .ok (.if_icmp .ge 25, 3) := by decide +kernel
theorem d_Verbs_addWord_33 : decode b_Verbs_addWord 33 = .ok (.aload_n 0, 1) := by decide +kernel
theorem d_Verbs_addWord_34 : decode b_Verbs_addWord 34 = .ok (.getfield 20, 3) := by decide +kernel
theorem d_Verbs_addWord_37 : decode b_Verbs_addWord 37 = .ok (.iload 4, 2) := by decide +kernel
theorem d_Verbs_addWord_39 : decode b_Verbs_addWord 39 = .ok (.invokevirtual 38, 3) := by decide +kernel
theorem d_Verbs_addWord_42 : decode b_Verbs_addWord 42 = .ok (.iload_n 1, 1) := by decide +kernel
theorem d_Verbs_addWord_43 : decode b_Verbs_addWord 43 = .ok (.if_icmp .ne 6, 3) := by decide +kernel
theorem d_Verbs_addWord_46 : decode b_Verbs_addWord 46 = .ok (.iinc 3 1, 3) := by decide +kernel
theorem d_Verbs_addWord_49 : decode b_Verbs_addWord 49 = .ok (.iinc 4 1, 3) := by decide +kernel
theorem d_Verbs_addWord_52 : decode b_Verbs_addWord 52 = .ok (.goto (-31), 3) := by decide +kernel
theorem d_Verbs_addWord_55 : decode b_Verbs_addWord 55 = .ok (.iload_n 3, 1) := by decide +kernel
theorem d_Verbs_addWord_56 : decode b_Verbs_addWord 56 = .ok (.ireturn, 1) := by decide +kernel
theorem d_Verbs_add_0 : decode b_Verbs_add 0 = .ok (.aload_n 0, 1) := by decide +kernel
theorem d_Verbs_add_1 : decode b_Verbs_add 1 = .ok (.dup, 1) := by decide +kernel
theorem d_Verbs_add_2 : decode b_Verbs_add 2 = .ok (.getfield 23, 3) := by decide +kernel
theorem d_Verbs_add_5 : decode b_Verbs_add 5 = .ok (.iconst 1, 1) := by decide +kernel
theorem d_Verbs_add_6 : decode b_Verbs_add 6 = .ok (.iadd, 1) := by decide +kernel
theorem d_Verbs_add_7 : decode b_Verbs_add 7 = .ok (.putfield 23, 3) := by decide +kernel
theorem d_Verbs_add_10 : decode b_Verbs_add 10 = .ok (.aload_n 0, 1) := by decide +kernel
theorem d_Verbs_add_11 : decode b_Verbs_add 11 = .ok (.aload_n 0, 1) := by decide +kernel
theorem d_Verbs_add_12 : decode b_Verbs_add 12 = .ok (.getfield 23, 3) := by decide +kernel
theorem d_Verbs_add_15 : decode b_Verbs_add 15 = .ok (.iconst 1, 1) := by decide +kernel
theorem d_Verbs_add_16 : decode b_Verbs_add 16 = .ok (.isub, 1) := by decide +kernel
theorem d_Verbs_add_17 : decode b_Verbs_add 17 = .ok (.iload_n 1, 1) := by decide +kernel
theorem d_Verbs_add_18 : decode b_Verbs_add 18 = .ok (.invokevirtual 31, 3) := by decide +kernel
theorem d_Verbs_add_21 : decode b_Verbs_add 21 = .ok (.pop, 1) := by decide +kernel
theorem d_Verbs_add_22 : decode b_Verbs_add 22 = .ok (.aload_n 0, 1) := by decide +kernel
theorem d_Verbs_add_23 : decode b_Verbs_add 23 = .ok (.getfield 23, 3) := by decide +kernel
theorem d_Verbs_add_26 : decode b_Verbs_add 26 = .ok (.iconst 1, 1) := by decide +kernel
theorem d_Verbs_add_27 : decode b_Verbs_add 27 = .ok (.isub, 1) := by decide +kernel
theorem d_Verbs_add_28 : decode b_Verbs_add 28 = .ok (.ireturn, 1) := by decide +kernel
theorem d_G_verb_0 : decode b_G_verb 0 = .ok (.aload_n 0, 1) := by decide +kernel
theorem d_G_verb_1 : decode b_G_verb 1 = .ok (.iload_n 1, 1) := by decide +kernel
theorem d_G_verb_2 : decode b_G_verb 2 = .ok (.invokevirtual 87, 3) := by decide +kernel
theorem d_G_verb_5 : decode b_G_verb 5 = .ok (.ifCond .ne 6, 3) := by decide +kernel
theorem d_G_verb_8 : decode b_G_verb 8 = .ok (.bipush (-102), 2) := by decide +kernel
theorem d_G_verb_10 : decode b_G_verb 10 = .ok (.ireturn, 1) := by decide +kernel
theorem d_G_verb_11 : decode b_G_verb 11 = .ok (.aload_n 0, 1) := by decide +kernel
theorem d_G_verb_12 : decode b_G_verb 12 = .ok (.getfield 19, 3) := by decide +kernel
theorem d_G_verb_15 : decode b_G_verb 15 = .ok (.invokevirtual 91, 3) := by decide +kernel
theorem d_G_verb_18 : decode b_G_verb 18 = .ok (.ifCond .ne 13, 3) := by decide +kernel
theorem d_G_verb_21 : decode b_G_verb 21 = .ok (.aload_n 0, 1) := by decide +kernel
theorem d_G_verb_22 : decode b_G_verb 22 = .ok (.getfield 19, 3) := by decide +kernel
theorem d_G_verb_25 : decode b_G_verb 25 = .ok (.invokevirtual 95, 3) := by decide +kernel
theorem d_G_verb_28 : decode b_G_verb 28 = .ok (.ifCond .eq 6, 3) := by decide +kernel
theorem d_G_verb_31 : decode b_G_verb 31 = .ok (.bipush (-104), 2) := by decide +kernel
theorem d_G_verb_33 : decode b_G_verb 33 = .ok (.ireturn, 1) := by decide +kernel
theorem d_G_verb_34 : decode b_G_verb 34 = .ok (.aload_n 0, 1) := by decide +kernel
theorem d_G_verb_35 : decode b_G_verb 35 = .ok (.getfield 19, 3) := by decide +kernel
theorem d_G_verb_38 : decode b_G_verb 38 = .ok (.iload_n 1, 1) := by decide +kernel
theorem d_G_verb_39 : decode b_G_verb 39 = .ok (.invokevirtual 98, 3) := by decide +kernel
theorem d_G_verb_42 : decode b_G_verb 42 = .ok (.ireturn, 1) := by decide +kernel
theorem d_Verbs_has_0 : decode b_Verbs_has 0 = .ok (.iload_n 1, 1) := by decide +kernel
theorem d_Verbs_has_1 : decode b_Verbs_has 1 = .ok (.ifCond .lt 15, 3) := by decide +kernel
theorem d_Verbs_has_4 : decode b_Verbs_has 4 = .ok (.iload_n 1, 1) := by decide +kernel
theorem d_Verbs_has_5 : decode b_Verbs_has 5 = .ok (.aload_n 0, 1) := by decide +kernel
theorem d_Verbs_has_6 : decode b_Verbs_has 6 = .ok (.getfield 23, 3) := by decide +kernel
theorem d_Verbs_has_9 : decode b_Verbs_has 9 = .ok (.if_icmp .ge 7, 3) := by decide +kernel
theorem d_Verbs_has_12 : decode b_Verbs_has 12 = .ok (.iconst 1, 1) := by decide +kernel
theorem d_Verbs_has_13 : decode b_Verbs_has 13 = .ok (.goto 4, 3) := by decide +kernel
theorem d_Verbs_has_16 : decode b_Verbs_has 16 = .ok (.iconst 0, 1) := by decide +kernel
theorem d_Verbs_has_17 : decode b_Verbs_has 17 = .ok (.ireturn, 1) := by decide +kernel
theorem d_G_like_0 : decode b_G_like 0 = .ok (.aload_n 0, 1) := by decide +kernel
theorem d_G_like_1 : decode b_G_like 1 = .ok (.getfield 19, 3) := by decide +kernel
theorem d_G_like_4 : decode b_G_like 4 = .ok (.iload_n 1, 1) := by decide +kernel
theorem d_G_like_5 : decode b_G_like 5 = .ok (.invokevirtual 102, 3) := by decide +kernel
theorem d_G_like_8 : decode b_G_like 8 = .ok (.ifCond .ne 6, 3) := by decide +kernel
theorem d_G_like_11 : decode b_G_like 11 = .ok (.bipush (-101), 2) := by decide +kernel
theorem d_G_like_13 : decode b_G_like 13 = .ok (.ireturn, 1) := by decide +kernel
theorem d_G_like_14 : decode b_G_like 14 = .ok (.aload_n 0, 1) := by decide +kernel
theorem d_G_like_15 : decode b_G_like 15 = .ok (.iload_n 2, 1) := by decide +kernel
theorem d_G_like_16 : decode b_G_like 16 = .ok (.invokevirtual 87, 3) := by decide +kernel
theorem d_G_like_19 : decode b_G_like 19 = .ok (.ifCond .ne 6, 3) := by decide +kernel
theorem d_G_like_22 : decode b_G_like 22 = .ok (.bipush (-102), 2) := by decide +kernel
theorem d_G_like_24 : decode b_G_like 24 = .ok (.ireturn, 1) := by decide +kernel
theorem d_G_like_25 : decode b_G_like 25 = .ok (.aload_n 0, 1) := by decide +kernel
theorem d_G_like_26 : decode b_G_like 26 = .ok (.getfield 19, 3) := by decide +kernel
theorem d_G_like_29 : decode b_G_like 29 = .ok (.invokevirtual 95, 3) := by decide +kernel
theorem d_G_like_32 : decode b_G_like 32 = .ok (.ifCond .eq 6, 3) := by decide +kernel
theorem d_G_like_35 : decode b_G_like 35 = .ok (.bipush (-104), 2) := by decide +kernel
theorem d_G_like_37 : decode b_G_like 37 = .ok (.ireturn, 1) := by decide +kernel
theorem d_G_like_38 : decode b_G_like 38 = .ok (.aload_n 0, 1) := by decide +kernel
theorem d_G_like_39 : decode b_G_like 39 = .ok (.getfield 19, 3) := by decide +kernel
theorem d_G_like_42 : decode b_G_like 42 = .ok (.iload_n 1, 1) := by decide +kernel
theorem d_G_like_43 : decode b_G_like 43 = .ok (.iload_n 2, 1) := by decide +kernel
theorem d_G_like_44 : decode b_G_like 44 = .ok (.invokevirtual 105, 3) := by decide +kernel
theorem d_G_like_47 : decode b_G_like 47 = .ok (.ireturn, 1) := by decide +kernel
theorem d_Lines_isFull_0 : decode b_Lines_isFull 0 = .ok (.aload_n 0, 1) := by decide +kernel
theorem d_Lines_isFull_1 : decode b_Lines_isFull 1 = .ok (.getfield 31, 3) := by decide +kernel
theorem d_Lines_isFull_4 : decode b_Lines_isFull 4 = .ok (.bipush 60, 2) := by decide +kernel
theorem d_Lines_isFull_6 : decode b_Lines_isFull 6 = .ok (.if_icmp .lt 7, 3) := by decide +kernel
theorem d_Lines_isFull_9 : decode b_Lines_isFull 9 = .ok (.iconst 1, 1) := by decide +kernel
theorem d_Lines_isFull_10 : decode b_Lines_isFull 10 = .ok (.goto 4, 3) := by decide +kernel
theorem d_Lines_isFull_13 : decode b_Lines_isFull 13 = .ok (.iconst 0, 1) := by decide +kernel
theorem d_Lines_isFull_14 : decode b_Lines_isFull 14 = .ok (.ireturn, 1) := by decide +kernel
theorem d_Lines_add_0 : decode b_Lines_add 0 = .ok (.aload_n 0, 1) := by decide +kernel
theorem d_Lines_add_1 : decode b_Lines_add 1 = .ok (.invokevirtual 35, 3) := by decide +kernel
theorem d_Lines_add_4 : decode b_Lines_add 4 = .ok (.ifCond .eq 5, 3) := by decide +kernel
theorem d_Lines_add_7 : decode b_Lines_add 7 = .ok (.iconst (-1), 1) := by decide +kernel
theorem d_Lines_add_8 : decode b_Lines_add 8 = .ok (.ireturn, 1) := by decide +kernel
theorem d_Lines_add_9 : decode b_Lines_add 9 = .ok (.aload_n 0, 1) := by decide +kernel
theorem d_Lines_add_10 : decode b_Lines_add 10 = .ok (.getfield 9, 3) := by decide +kernel
theorem d_Lines_add_13 : decode b_Lines_add 13 = .ok (.aload_n 0, 1) := by decide +kernel
theorem d_Lines_add_14 : decode b_Lines_add 14 = .ok (.getfield 31, 3) := by decide +kernel
theorem d_Lines_add_17 : decode b_Lines_add 17 = .ok (.iload_n 1, 1) := by decide +kernel
theorem d_Lines_add_18 : decode b_Lines_add 18 = .ok (.iastore, 1) := by decide +kernel
theorem d_Lines_add_19 : decode b_Lines_add 19 = .ok (.aload_n 0, 1) := by decide +kernel
theorem d_Lines_add_20 : decode b_Lines_add 20 = .ok (.getfield 15, 3) := by decide +kernel
theorem d_Lines_add_23 : decode b_Lines_add 23 = .ok (.aload_n 0, 1) := by decide +kernel
theorem d_Lines_add_24 : decode b_Lines_add 24 = .ok (.getfield 31, 3) := by decide +kernel
theorem d_Lines_add_27 : decode b_Lines_add 27 = .ok (.iload_n 2, 1) := by decide +kernel
theorem d_Lines_add_28 : decode b_Lines_add 28 = .ok (.iastore, 1) := by decide +kernel
theorem d_Lines_add_29 : decode b_Lines_add 29 = .ok (.aload_n 0, 1) := by decide +kernel
theorem d_Lines_add_30 : decode b_Lines_add 30 = .ok (.getfield 18, 3) := by decide +kernel
theorem d_Lines_add_33 : decode b_Lines_add 33 = .ok (.aload_n 0, 1) := by decide +kernel
theorem d_Lines_add_34 : decode b_Lines_add 34 = .ok (.getfield 31, 3) := by decide +kernel
theorem d_Lines_add_37 : decode b_Lines_add 37 = .ok (.iload_n 3, 1) := by decide +kernel
theorem d_Lines_add_38 : decode b_Lines_add 38 = .ok (.bastore, 1) := by decide +kernel
theorem d_Lines_add_39 : decode b_Lines_add 39 = .ok (.aload_n 0, 1) := by decide +kernel
theorem d_Lines_add_40 : decode b_Lines_add 40 = .ok (.dup, 1) := by decide +kernel
theorem d_Lines_add_41 : decode b_Lines_add 41 = .ok (.getfield 31, 3) := by decide +kernel
theorem d_Lines_add_44 : decode b_Lines_add 44 = .ok (.iconst 1, 1) := by decide +kernel
theorem d_Lines_add_45 : decode b_Lines_add 45 = .ok (.iadd, 1) := by decide +kernel
theorem d_Lines_add_46 : decode b_Lines_add 46 = .ok (.putfield 31, 3) := by decide +kernel
theorem d_Lines_add_49 : decode b_Lines_add 49 = .ok (.aload_n 0, 1) := by decide +kernel
theorem d_Lines_add_50 : decode b_Lines_add 50 = .ok (.getfield 31, 3) := by decide +kernel
theorem d_Lines_add_53 : decode b_Lines_add 53 = .ok (.iconst 1, 1) := by decide +kernel
theorem d_Lines_add_54 : decode b_Lines_add 54 = .ok (.isub, 1) := by decide +kernel
theorem d_Lines_add_55 : decode b_Lines_add 55 = .ok (.ireturn, 1) := by decide +kernel
theorem d_G_line_0 : decode b_G_line 0 = .ok (.aload_n 0, 1) := by decide +kernel
theorem d_G_line_1 : decode b_G_line 1 = .ok (.getfield 19, 3) := by decide +kernel
theorem d_G_line_4 : decode b_G_line 4 = .ok (.iload_n 1, 1) := by decide +kernel
theorem d_G_line_5 : decode b_G_line 5 = .ok (.invokevirtual 102, 3) := by decide +kernel
theorem d_G_line_8 : decode b_G_line 8 = .ok (.ifCond .ne 6, 3) := by decide +kernel
theorem d_G_line_11 : decode b_G_line 11 = .ok (.bipush (-101), 2) := by decide +kernel
theorem d_G_line_13 : decode b_G_line 13 = .ok (.ireturn, 1) := by decide +kernel
theorem d_G_line_14 : decode b_G_line 14 = .ok (.iload_n 2, 1) := by decide +kernel
theorem d_G_line_15 : decode b_G_line 15 = .ok (.iconst 1, 1) := by decide +kernel
theorem d_G_line_16 : decode b_G_line 16 = .ok (.if_icmp .lt 10, 3) := by decide +kernel
theorem d_G_line_19 : decode b_G_line 19 = .ok (.iload_n 2, 1) := by decide +kernel
theorem d_G_line_20 : decode b_G_line 20 = .ok (.sipush 9999, 3) := by decide +kernel
theorem d_G_line_23 : decode b_G_line 23 = .ok (.if_icmp .le 6, 3) := by decide +kernel
theorem d_G_line_26 : decode b_G_line 26 = .ok (.bipush (-102), 2) := by decide +kernel
theorem d_G_line_28 : decode b_G_line 28 = .ok (.ireturn, 1) := by decide +kernel
theorem d_G_line_29 : decode b_G_line 29 = .ok (.aload_n 0, 1) := by decide +kernel
theorem d_G_line_30 : decode b_G_line 30 = .ok (.getfield 26, 3) := by decide +kernel
theorem d_G_line_33 : decode b_G_line 33 = .ok (.invokevirtual 109, 3) := by decide +kernel
theorem d_G_line_36 : decode b_G_line 36 = .ok (.ifCond .eq 6, 3) := by decide +kernel
theorem d_G_line_39 : decode b_G_line 39 = .ok (.bipush (-104), 2) := by decide +kernel
theorem d_G_line_41 : decode b_G_line 41 = .ok (.ireturn, 1) := by decide +kernel
theorem d_G_line_42 : decode b_G_line 42 = .ok (.aload_n 0, 1) := by decide +kernel
theorem d_G_line_43 : decode b_G_line 43 = .ok (.getfield 26, 3) := by decide +kernel
theorem d_G_line_46 : decode b_G_line 46 = .ok (.iload_n 1, 1) := by decide +kernel
theorem d_G_line_47 : decode b_G_line 47 = .ok (.iload_n 2, 1) := by decide +kernel
theorem d_G_line_48 : decode b_G_line 48 = .ok (.iload_n 3, 1) := by decide +kernel
theorem d_G_line_49 : decode b_G_line 49 = .ok (.invokevirtual 110, 3) := by decide +kernel
theorem d_G_line_52 : decode b_G_line 52 = .ok (.ireturn, 1) := by decide +kernel
theorem d_Lines_has_0 : decode b_Lines_has 0 = .ok (.iload_n 1, 1) := by decide +kernel
theorem d_Lines_has_1 : decode b_Lines_has 1 = .ok (.ifCond .lt 15, 3) := by decide +kernel
theorem d_Lines_has_4 : decode b_Lines_has 4 = .ok (.iload_n 1, 1) := by decide +kernel
theorem d_Lines_has_5 : decode b_Lines_has 5 = .ok (.aload_n 0, 1) := by decide +kernel
theorem d_Lines_has_6 : decode b_Lines_has 6 = .ok (.getfield 31, 3) := by decide +kernel
theorem d_Lines_has_9 : decode b_Lines_has 9 = .ok (.if_icmp .ge 7, 3) := by decide +kernel
theorem d_Lines_has_12 : decode b_Lines_has 12 = .ok (.iconst 1, 1) := by decide +kernel
theorem d_Lines_has_13 : decode b_Lines_has 13 = .ok (.goto 4, 3) := by decide +kernel
theorem d_Lines_has_16 : decode b_Lines_has 16 = .ok (.iconst 0, 1) := by decide +kernel
theorem d_Lines_has_17 : decode b_Lines_has 17 = .ok (.ireturn, 1) := by decide +kernel
theorem d_G_mayBeToken_0 : decode b_G_mayBeToken 0 = .ok (.iload_n 0, 1) := by decide +kernel
theorem d_G_mayBeToken_1 : decode b_G_mayBeToken 1 = .ok (.ifCond .lt 9, 3) := by decide +kernel
theorem d_G_mayBeToken_4 : decode b_G_mayBeToken 4 = .ok (.iload_n 0, 1) := by decide +kernel
theorem d_G_mayBeToken_5 : decode b_G_mayBeToken 5 = .ok (.bipush 11, 2) := by decide +kernel
theorem d_G_mayBeToken_7 : decode b_G_mayBeToken 7 = .ok (.if_icmp .le 5, 3) := by decide +kernel
theorem d_G_mayBeToken_10 : decode b_G_mayBeToken 10 = .ok (.iconst 0, 1) := by decide +kernel
theorem d_G_mayBeToken_11 : decode b_G_mayBeToken 11 = .ok (.ireturn, 1) := by decide +kernel
theorem d_G_mayBeToken_12 : decode b_G_mayBeToken 12 = .ok (.iload_n 0, 1) := by decide +kernel
theorem d_G_mayBeToken_13 : decode b_G_mayBeToken 13 = .ok (.ifCond .eq 8, 3) := by decide +kernel
theorem d_G_mayBeToken_16 : decode b_G_mayBeToken 16 = .ok (.iload_n 0, 1) := by decide +kernel
theorem d_G_mayBeToken_17 : decode b_G_mayBeToken 17 = .ok (.iconst 1, 1) := by decide +kernel
theorem d_G_mayBeToken_18 : decode b_G_mayBeToken 18 = .ok (.if_icmp .ne 8, 3) := by decide +kernel
theorem d_G_mayBeToken_21 : decode b_G_mayBeToken 21 = .ok (.iload_n 1, 1) := by decide +kernel
theorem d_G_mayBeToken_22 : decode b_G_mayBeToken 22 = .ok (.invokestatic 134, 3) := by decide +kernel
theorem d_G_mayBeToken_25 : decode b_G_mayBeToken 25 = .ok (.ireturn, 1) := by decide +kernel
theorem d_G_mayBeToken_26 : decode b_G_mayBeToken 26 = .ok (.iload_n 0, 1) := by decide +kernel
theorem d_G_mayBeToken_27 : decode b_G_mayBeToken 27 = .ok (.bipush 11, 2) := by decide +kernel
theorem d_G_mayBeToken_29 : decode b_G_mayBeToken 29 = .ok (.if_icmp .ne 13, 3) := by decide +kernel
theorem d_G_mayBeToken_32 : decode b_G_mayBeToken 32 = .ok (.iload_n 1, 1) := by decide +kernel
theorem d_G_mayBeToken_33 : decode b_G_mayBeToken 33 = .ok (.ifCond .lt 13, 3) := by decide +kernel
theorem d_G_mayBeToken_36 : decode b_G_mayBeToken 36 = .ok (.iload_n 1, 1) := by decide +kernel
theorem d_G_mayBeToken_37 : decode b_G_mayBeToken 37 = .ok (.bipush 9, 2) := by decide +kernel
theorem d_G_mayBeToken_39 : decode b_G_mayBeToken 39 = .ok (.if_icmp .gt 7, 3) := by decide +kernel
theorem d_G_mayBeToken_42 : decode b_G_mayBeToken 42 = .ok (.iconst 1, 1) := by decide +kernel
theorem d_G_mayBeToken_43 : decode b_G_mayBeToken 43 = .ok (.goto 4, 3) := by decide +kernel
theorem d_G_mayBeToken_46 : decode b_G_mayBeToken 46 = .ok (.iconst 0, 1) := by decide +kernel
theorem d_G_mayBeToken_47 : decode b_G_mayBeToken 47 = .ok (.ireturn, 1) := by decide +kernel
theorem d_Lines_kindsOf_0 : decode b_Lines_kindsOf 0 = .ok (.aload_n 0, 1) := by decide +kernel
theorem d_Lines_kindsOf_1 : decode b_Lines_kindsOf 1 = .ok (.iload_n 1, 1) := by decide +kernel
theorem d_Lines_kindsOf_2 : decode b_Lines_kindsOf 2 = .ok (.invokevirtual 39, 3) := by decide +kernel
theorem d_Lines_kindsOf_5 : decode b_Lines_kindsOf 5 = .ok (.ifCond .eq 12, 3) := by decide +kernel
theorem d_Lines_kindsOf_8 : decode b_Lines_kindsOf 8 = .ok (.aload_n 0, 1) := by decide +kernel
theorem d_Lines_kindsOf_9 : decode b_Lines_kindsOf 9 = .ok (.getfield 22, 3) := by decide +kernel
theorem d_Lines_kindsOf_12 : decode b_Lines_kindsOf 12 = .ok (.iload_n 1, 1) := by decide +kernel
theorem d_Lines_kindsOf_13 : decode b_Lines_kindsOf 13 = .ok (.iaload, 1) := by decide +kernel
theorem d_Lines_kindsOf_14 : decode b_Lines_kindsOf 14 = .ok (.goto 4, 3) := by decide +kernel
theorem d_Lines_kindsOf_17 : decode b_Lines_kindsOf 17 = .ok (.iconst 0, 1) := by decide +kernel
theorem d_Lines_kindsOf_18 : decode b_Lines_kindsOf 18 = .ok (.ireturn, 1) := by decide +kernel
theorem d_Lines_kindAt_0 : decode b_Lines_kindAt 0 = .ok (.aload_n 0, 1) := by decide +kernel
theorem d_Lines_kindAt_1 : decode b_Lines_kindAt 1 = .ok (.iload_n 1, 1) := by decide +kernel
theorem d_Lines_kindAt_2 : decode b_Lines_kindAt 2 = .ok (.invokevirtual 39, 3) := by decide +kernel
theorem d_Lines_kindAt_5 : decode b_Lines_kindAt 5 = .ok (.ifCond .eq 31, 3) := by decide +kernel
theorem d_Lines_kindAt_8 : decode b_Lines_kindAt 8 = .ok (.iload_n 2, 1) := by decide +kernel
theorem d_Lines_kindAt_9 : decode b_Lines_kindAt 9 = .ok (.ifCond .lt 27, 3) := by decide +kernel
theorem d_Lines_kindAt_12 : decode b_Lines_kindAt 12 = .ok (.iload_n 2, 1) := by decide +kernel
theorem d_Lines_kindAt_13 : decode b_Lines_kindAt 13 = .ok (.aload_n 0, 1) := by decide +kernel
theorem d_Lines_kindAt_14 : decode b_Lines_kindAt 14 = .ok (.getfield 22, 3) := by decide +kernel
theorem d_Lines_kindAt_17 : decode b_Lines_kindAt 17 = .ok (.iload_n 1, 1) := by decide +kernel
theorem d_Lines_kindAt_18 : decode b_Lines_kindAt 18 = .ok (.iaload, 1) := by decide +kernel
theorem d_Lines_kindAt_19 : decode b_Lines_kindAt 19 = .ok (.if_icmp .ge 17, 3) := by decide +kernel
theorem d_Lines_kindAt_22 : decode b_Lines_kindAt 22 = .ok (.aload_n 0, 1) := by decide +kernel
theorem d_Lines_kindAt_23 : decode b_Lines_kindAt 23 = .ok (.getfield 25, 3) := by decide +kernel
theorem d_Lines_kindAt_26 : decode b_Lines_kindAt 26 = .ok (.iload_n 1, 1) := by decide +kernel
theorem d_Lines_kindAt_27 : decode b_Lines_kindAt 27 = .ok (.bipush 8, 2) := by decide +kernel
theorem d_Lines_kindAt_29 : decode b_Lines_kindAt 29 = .ok (.imul, 1) := by decide +kernel
theorem d_Lines_kindAt_30 : decode b_Lines_kindAt 30 = .ok (.iload_n 2, 1) := by decide +kernel
theorem d_Lines_kindAt_31 : decode b_Lines_kindAt 31 = .ok (.iadd, 1) := by decide +kernel
theorem d_Lines_kindAt_32 : decode b_Lines_kindAt 32 = .ok (.iaload, 1) := by decide +kernel
theorem d_Lines_kindAt_33 : decode b_Lines_kindAt 33 = .ok (.goto 4, 3) := by decide +kernel
theorem d_Lines_kindAt_36 : decode b_Lines_kindAt 36 = .ok (.iconst (-1), 1) := by decide +kernel
theorem d_Lines_kindAt_37 : decode b_Lines_kindAt 37 = .ok (.ireturn, 1) := by decide +kernel
theorem d_G_isSlot_0 : decode b_G_isSlot 0 = .ok (.iload_n 0, 1) := by decide +kernel
theorem d_G_isSlot_1 : decode b_G_isSlot 1 = .ok (.iconst 2, 1) := by decide +kernel
theorem d_G_isSlot_2 : decode b_G_isSlot 2 = .ok (.if_icmp .lt 13, 3) := by decide +kernel
theorem d_G_isSlot_5 : decode b_G_isSlot 5 = .ok (.iload_n 0, 1) := by decide +kernel
theorem d_G_isSlot_6 : decode b_G_isSlot 6 = .ok (.bipush 11, 2) := by decide +kernel
theorem d_G_isSlot_8 : decode b_G_isSlot 8 = .ok (.if_icmp .gt 7, 3) := by decide +kernel
theorem d_G_isSlot_11 : decode b_G_isSlot 11 = .ok (.iconst 1, 1) := by decide +kernel
theorem d_G_isSlot_12 : decode b_G_isSlot 12 = .ok (.goto 4, 3) := by decide +kernel
theorem d_G_isSlot_15 : decode b_G_isSlot 15 = .ok (.iconst 0, 1) := by decide +kernel
theorem d_G_isSlot_16 : decode b_G_isSlot 16 = .ok (.ireturn, 1) := by decide +kernel
theorem d_Lines_slotsOf_0 : decode b_Lines_slotsOf 0 = .ok (.iconst 0, 1) := by decide +kernel
theorem d_Lines_slotsOf_1 : decode b_Lines_slotsOf 1 = .ok (.istore_n 2, 1) := by decide +kernel
theorem d_Lines_slotsOf_2 : decode b_Lines_slotsOf 2 = .ok (.iconst 0, 1) := by decide +kernel
theorem d_Lines_slotsOf_3 : decode b_Lines_slotsOf 3 = .ok (.istore_n 3, 1) := by decide +kernel
theorem d_Lines_slotsOf_4 : decode b_Lines_slotsOf 4 = .ok (.iload_n 3, 1) := by decide +kernel
theorem d_Lines_slotsOf_5 : decode b_Lines_slotsOf 5 = .ok (.aload_n 0, 1) := by decide +kernel
theorem d_Lines_slotsOf_6 : decode b_Lines_slotsOf 6 = .ok (.iload_n 1, 1) := by decide +kernel
theorem d_Lines_slotsOf_7 : decode b_Lines_slotsOf 7 = .ok (.invokevirtual 43, 3) := by decide +kernel
theorem d_Lines_slotsOf_10 : decode b_Lines_slotsOf 10 = .ok (.if_icmp .ge 24, 3) := by decide +kernel
theorem d_Lines_slotsOf_13 : decode b_Lines_slotsOf 13 = .ok (.aload_n 0, 1) := by decide +kernel
theorem d_Lines_slotsOf_14 : decode b_Lines_slotsOf 14 = .ok (.iload_n 1, 1) := by decide +kernel
theorem d_Lines_slotsOf_15 : decode b_Lines_slotsOf 15 = .ok (.iload_n 3, 1) := by decide +kernel
theorem d_Lines_slotsOf_16 : decode b_Lines_slotsOf 16 = .ok (.invokevirtual 47, 3) := by decide +kernel
theorem d_Lines_slotsOf_19 : decode b_Lines_slotsOf 19 = .ok (.invokestatic 51, 3) := by decide +kernel
theorem d_Lines_slotsOf_22 : decode b_Lines_slotsOf 22 = .ok (.ifCond .eq 6, 3) := by decide +kernel
theorem d_Lines_slotsOf_25 : decode b_Lines_slotsOf 25 = .ok (.iinc 2 1, 3) := by decide +kernel
theorem d_Lines_slotsOf_28 : decode b_Lines_slotsOf 28 = .ok (.iinc 3 1, 3) := by decide +kernel
theorem d_Lines_slotsOf_31 : decode b_Lines_slotsOf 31 = .ok (.goto (-27), 3) := by decide +kernel
theorem d_Lines_slotsOf_34 : decode b_Lines_slotsOf 34 = .ok (.iload_n 2, 1) := by decide +kernel
theorem d_Lines_slotsOf_35 : decode b_Lines_slotsOf 35 = .ok (.ireturn, 1) := by decide +kernel
theorem d_Lines_allows_0 : decode b_Lines_allows 0 = .ok (.aload_n 0, 1) := by decide +kernel
theorem d_Lines_allows_1 : decode b_Lines_allows 1 = .ok (.iload_n 1, 1) := by decide +kernel
theorem d_Lines_allows_2 : decode b_Lines_allows 2 = .ok (.aload_n 0, 1) := by decide +kernel
theorem d_Lines_allows_3 : decode b_Lines_allows 3 = .ok (.iload_n 1, 1) := by decide +kernel
theorem d_Lines_allows_4 : decode b_Lines_allows 4 = .ok (.invokevirtual 43, 3) := by decide +kernel
theorem d_Lines_allows_7 : decode b_Lines_allows 7 = .ok (.iconst 1, 1) := by decide +kernel
theorem d_Lines_allows_8 : decode b_Lines_allows 8 = .ok (.isub, 1) := by decide +kernel
theorem d_Lines_allows_9 : decode b_Lines_allows 9 = .ok (.invokevirtual 47, 3) := by decide +kernel
theorem d_Lines_allows_12 : decode b_Lines_allows 12 = .ok (.istore_n 3, 1) := by decide +kernel
theorem d_Lines_allows_13 : decode b_Lines_allows 13 = .ok (.iload_n 2, 1) := by decide +kernel
theorem d_Lines_allows_14 : decode b_Lines_allows 14 = .ok (.iconst 1, 1) := by decide +kernel
theorem d_Lines_allows_15 : decode b_Lines_allows 15 = .ok (.if_icmp .ne 18, 3) := by decide +kernel
theorem d_Lines_allows_18 : decode b_Lines_allows 18 = .ok (.iload_n 3, 1) := by decide +kernel
theorem d_Lines_allows_19 : decode b_Lines_allows 19 = .ok (.ifCond .eq 8, 3) := by decide +kernel
theorem d_Lines_allows_22 : decode b_Lines_allows 22 = .ok (.iload_n 3, 1) := by decide +kernel
theorem d_Lines_allows_23 : decode b_Lines_allows 23 = .ok (.iconst 1, 1) := by decide +kernel
theorem d_Lines_allows_24 : decode b_Lines_allows 24 = .ok (.if_icmp .ne 7, 3) := by decide +kernel
theorem d_Lines_allows_27 : decode b_Lines_allows 27 = .ok (.iconst 1, 1) := by decide +kernel
theorem d_Lines_allows_28 : decode b_Lines_allows 28 = .ok (.goto 4, 3) := by decide +kernel
theorem d_Lines_allows_31 : decode b_Lines_allows 31 = .ok (.iconst 0, 1) := by decide +kernel
theorem d_Lines_allows_32 : decode b_Lines_allows 32 = .ok (.ireturn, 1) := by decide +kernel
theorem d_Lines_allows_33 : decode b_Lines_allows 33 = .ok (.iload_n 3, 1) := by decide +kernel
theorem d_Lines_allows_34 : decode b_Lines_allows 34 = .ok (.bipush 9, 2) := by decide +kernel
theorem d_Lines_allows_36 : decode b_Lines_allows 36 = .ok (.if_icmp .ne 9, 3) := by decide +kernel
theorem d_Lines_allows_39 : decode b_Lines_allows 39 = .ok (.iload_n 2, 1) := by decide +kernel
theorem d_Lines_allows_40 : decode b_Lines_allows 40 = .ok (.ifCond .eq 5, 3) := by decide +kernel
theorem d_Lines_allows_43 : decode b_Lines_allows 43 = .ok (.iconst 0, 1) := by decide +kernel
theorem d_Lines_allows_44 : decode b_Lines_allows 44 = .ok (.ireturn, 1) := by decide +kernel
theorem d_Lines_allows_45 : decode b_Lines_allows 45 = .ok (.iload_n 2, 1) := by decide +kernel
theorem d_Lines_allows_46 : decode b_Lines_allows 46 = .ok (.invokestatic 51, 3) := by decide +kernel
theorem d_Lines_allows_49 : decode b_Lines_allows 49 = .ok (.ifCond .eq 12, 3) := by decide +kernel
theorem d_Lines_allows_52 : decode b_Lines_allows 52 = .ok (.aload_n 0, 1) := by decide +kernel
theorem d_Lines_allows_53 : decode b_Lines_allows 53 = .ok (.iload_n 1, 1) := by decide +kernel
theorem d_Lines_allows_54 : decode b_Lines_allows 54 = .ok (.invokevirtual 54, 3) := by decide +kernel
theorem d_Lines_allows_57 : decode b_Lines_allows 57 = .ok (.iconst 2, 1) := by decide +kernel
theorem d_Lines_allows_58 : decode b_Lines_allows 58 = .ok (.if_icmp .ge 7, 3) := by decide +kernel
theorem d_Lines_allows_61 : decode b_Lines_allows 61 = .ok (.iconst 1, 1) := by decide +kernel
theorem d_Lines_allows_62 : decode b_Lines_allows 62 = .ok (.goto 4, 3) := by decide +kernel
theorem d_Lines_allows_65 : decode b_Lines_allows 65 = .ok (.iconst 0, 1) := by decide +kernel
theorem d_Lines_allows_66 : decode b_Lines_allows 66 = .ok (.ireturn, 1) := by decide +kernel
theorem d_Lines_addKind_0 : decode b_Lines_addKind 0 = .ok (.aload_n 0, 1) := by decide +kernel
theorem d_Lines_addKind_1 : decode b_Lines_addKind 1 = .ok (.iload_n 1, 1) := by decide +kernel
theorem d_Lines_addKind_2 : decode b_Lines_addKind 2 = .ok (.invokevirtual 39, 3) := by decide +kernel
theorem d_Lines_addKind_5 : decode b_Lines_addKind 5 = .ok (.ifCond .eq 53, 3) := by decide +kernel
theorem d_Lines_addKind_8 : decode b_Lines_addKind 8 = .ok (.aload_n 0, 1) := by decide +kernel
theorem d_Lines_addKind_9 : decode b_Lines_addKind 9 = .ok (.getfield 22, 3) := by decide +kernel
theorem d_Lines_addKind_12 : decode b_Lines_addKind 12 = .ok (.iload_n 1, 1) := by decide +kernel
theorem d_Lines_addKind_13 : decode b_Lines_addKind 13 = .ok (.iaload, 1) := by decide +kernel
theorem d_Lines_addKind_14 : decode b_Lines_addKind 14 = .ok (.bipush 8, 2) := by decide +kernel
theorem d_Lines_addKind_16 : decode b_Lines_addKind 16 = .ok (.if_icmp .ge 42, 3) := by decide +kernel
theorem d_Lines_addKind_19 : decode b_Lines_addKind 19 = .ok (.iload_n 1, 1) := by decide +kernel
theorem d_Lines_addKind_20 : decode b_Lines_addKind 20 = .ok (.bipush 8, 2) := by decide +kernel
theorem d_Lines_addKind_22 : decode b_Lines_addKind 22 = .ok (.imul, 1) := by decide +kernel
theorem d_Lines_addKind_23 : decode b_Lines_addKind 23 = .ok (.aload_n 0, 1) := by decide +kernel
theorem d_Lines_addKind_24 : decode b_Lines_addKind 24 = .ok (.getfield 22, 3) := by decide +kernel
theorem d_Lines_addKind_27 : decode b_Lines_addKind 27 = .ok (.iload_n 1, 1) := by decide +kernel
theorem d_Lines_addKind_28 : decode b_Lines_addKind 28 = .ok (.iaload, 1) := by decide +kernel
theorem d_Lines_addKind_29 : decode b_Lines_addKind 29 = .ok (.iadd, 1) := by decide +kernel
theorem d_Lines_addKind_30 : decode b_Lines_addKind 30 = .ok (.istore 4, 2) := by decide +kernel
theorem d_Lines_addKind_32 : decode b_Lines_addKind 32 = .ok (.aload_n 0, 1) := by decide +kernel
theorem d_Lines_addKind_33 : decode b_Lines_addKind 33 = .ok (.getfield 25, 3) := by decide +kernel
theorem d_Lines_addKind_36 : decode b_Lines_addKind 36 = .ok (.iload 4, 2) := by decide +kernel
theorem d_Lines_addKind_38 : decode b_Lines_addKind 38 = .ok (.iload_n 2, 1) := by decide +kernel
theorem d_Lines_addKind_39 : decode b_Lines_addKind 39 = .ok (.iastore, 1) := by decide +kernel
theorem d_Lines_addKind_40 : decode b_Lines_addKind 40 = .ok (.aload_n 0, 1) := by decide +kernel
theorem d_Lines_addKind_41 : decode b_Lines_addKind 41 = .ok (.getfield 28, 3) := by decide +kernel
theorem d_Lines_addKind_44 : decode b_Lines_addKind 44 = .ok (.iload 4, 2) := by decide +kernel
theorem d_Lines_addKind_46 : decode b_Lines_addKind 46 = .ok (.iload_n 3, 1) := by decide +kernel
theorem d_Lines_addKind_47 : decode b_Lines_addKind 47 = .ok (.iastore, 1) := by decide +kernel
theorem d_Lines_addKind_48 : decode b_Lines_addKind 48 = .ok (.aload_n 0, 1) := by decide +kernel
theorem d_Lines_addKind_49 : decode b_Lines_addKind 49 = .ok (.getfield 22, 3) := by decide +kernel
theorem d_Lines_addKind_52 : decode b_Lines_addKind 52 = .ok (.iload_n 1, 1) := by decide +kernel
theorem d_Lines_addKind_53 : decode b_Lines_addKind 53 = .ok (.dup2, 1) := by decide +kernel
theorem d_Lines_addKind_54 : decode b_Lines_addKind 54 = .ok (.iaload, 1) := by decide +kernel
theorem d_Lines_addKind_55 : decode b_Lines_addKind 55 = .ok (.iconst 1, 1) := by decide +kernel
theorem d_Lines_addKind_56 : decode b_Lines_addKind 56 = .ok (.iadd, 1) := by decide +kernel
theorem d_Lines_addKind_57 : decode b_Lines_addKind 57 = .ok (.iastore, 1) := by decide +kernel
theorem d_Lines_addKind_58 : decode b_Lines_addKind 58 = .ok (.aload_n 0, 1) := by decide +kernel
theorem d_Lines_addKind_59 : decode b_Lines_addKind 59 = .ok (.iload_n 1, 1) := by decide +kernel
theorem d_Lines_addKind_60 : decode b_Lines_addKind 60 = .ok (.invokevirtual 43, 3) := by decide +kernel
theorem d_Lines_addKind_63 : decode b_Lines_addKind 63 = .ok (.ireturn, 1) := by decide +kernel
theorem d_G_token_0 : decode b_G_token 0 = .ok (.aload_n 0, 1) := by decide +kernel
theorem d_G_token_1 : decode b_G_token 1 = .ok (.getfield 26, 3) := by decide +kernel
theorem d_G_token_4 : decode b_G_token 4 = .ok (.iload_n 1, 1) := by decide +kernel
theorem d_G_token_5 : decode b_G_token 5 = .ok (.invokevirtual 113, 3) := by decide +kernel
theorem d_G_token_8 : decode b_G_token 8 = .ok (.ifCond .ne 6, 3) := by decide +kernel
theorem d_G_token_11 : decode b_G_token 11 = .ok (.bipush (-101), 2) := by decide +kernel
theorem d_G_token_13 : decode b_G_token 13 = .ok (.ireturn, 1) := by decide +kernel
theorem d_G_token_14 : decode b_G_token 14 = .ok (.iload_n 2, 1) := by decide +kernel
theorem d_G_token_15 : decode b_G_token 15 = .ok (.iload_n 3, 1) := by decide +kernel
theorem d_G_token_16 : decode b_G_token 16 = .ok (.invokestatic 114, 3) := by decide +kernel
theorem d_G_token_19 : decode b_G_token 19 = .ok (.ifCond .ne 6, 3) := by decide +kernel
theorem d_G_token_22 : decode b_G_token 22 = .ok (.bipush (-102), 2) := by decide +kernel
theorem d_G_token_24 : decode b_G_token 24 = .ok (.ireturn, 1) := by decide +kernel
theorem d_G_token_25 : decode b_G_token 25 = .ok (.aload_n 0, 1) := by decide +kernel
theorem d_G_token_26 : decode b_G_token 26 = .ok (.getfield 26, 3) := by decide +kernel
theorem d_G_token_29 : decode b_G_token 29 = .ok (.iload_n 1, 1) := by decide +kernel
theorem d_G_token_30 : decode b_G_token 30 = .ok (.iload_n 2, 1) := by decide +kernel
theorem d_G_token_31 : decode b_G_token 31 = .ok (.invokevirtual 118, 3) := by decide +kernel
theorem d_G_token_34 : decode b_G_token 34 = .ok (.ifCond .ne 6, 3) := by decide +kernel
theorem d_G_token_37 : decode b_G_token 37 = .ok (.bipush (-103), 2) := by decide +kernel
theorem d_G_token_39 : decode b_G_token 39 = .ok (.ireturn, 1) := by decide +kernel
theorem d_G_token_40 : decode b_G_token 40 = .ok (.aload_n 0, 1) := by decide +kernel
theorem d_G_token_41 : decode b_G_token 41 = .ok (.getfield 26, 3) := by decide +kernel
theorem d_G_token_44 : decode b_G_token 44 = .ok (.iload_n 1, 1) := by decide +kernel
theorem d_G_token_45 : decode b_G_token 45 = .ok (.invokevirtual 121, 3) := by decide +kernel
theorem d_G_token_48 : decode b_G_token 48 = .ok (.bipush 8, 2) := by decide +kernel
theorem d_G_token_50 : decode b_G_token 50 = .ok (.if_icmp .lt 6, 3) := by decide +kernel
theorem d_G_token_53 : decode b_G_token 53 = .ok (.bipush (-104), 2) := by decide +kernel
theorem d_G_token_55 : decode b_G_token 55 = .ok (.ireturn, 1) := by decide +kernel
theorem d_G_token_56 : decode b_G_token 56 = .ok (.aload_n 0, 1) := by decide +kernel
theorem d_G_token_57 : decode b_G_token 57 = .ok (.getfield 26, 3) := by decide +kernel
theorem d_G_token_60 : decode b_G_token 60 = .ok (.iload_n 1, 1) := by decide +kernel
theorem d_G_token_61 : decode b_G_token 61 = .ok (.iload_n 2, 1) := by decide +kernel
theorem d_G_token_62 : decode b_G_token 62 = .ok (.iload_n 3, 1) := by decide +kernel
theorem d_G_token_63 : decode b_G_token 63 = .ok (.invokevirtual 124, 3) := by decide +kernel
theorem d_G_token_66 : decode b_G_token 66 = .ok (.ireturn, 1) := by decide +kernel
theorem d_G_mayBeFlags_0 : decode b_G_mayBeFlags 0 = .ok (.iload_n 0, 1) := by decide +kernel
theorem d_G_mayBeFlags_1 : decode b_G_mayBeFlags 1 = .ok (.ifCond .lt 13, 3) := by decide +kernel
theorem d_G_mayBeFlags_4 : decode b_G_mayBeFlags 4 = .ok (.iload_n 0, 1) := by decide +kernel
theorem d_G_mayBeFlags_5 : decode b_G_mayBeFlags 5 = .ok (.bipush 15, 2) := by decide +kernel
theorem d_G_mayBeFlags_7 : decode b_G_mayBeFlags 7 = .ok (.if_icmp .gt 7, 3) := by decide +kernel
theorem d_G_mayBeFlags_10 : decode b_G_mayBeFlags 10 = .ok (.iconst 1, 1) := by decide +kernel
theorem d_G_mayBeFlags_11 : decode b_G_mayBeFlags 11 = .ok (.goto 4, 3) := by decide +kernel
theorem d_G_mayBeFlags_14 : decode b_G_mayBeFlags 14 = .ok (.iconst 0, 1) := by decide +kernel
theorem d_G_mayBeFlags_15 : decode b_G_mayBeFlags 15 = .ok (.ireturn, 1) := by decide +kernel
theorem d_Things_isFull_0 : decode b_Things_isFull 0 = .ok (.aload_n 0, 1) := by decide +kernel
theorem d_Things_isFull_1 : decode b_Things_isFull 1 = .ok (.getfield 21, 3) := by decide +kernel
theorem d_Things_isFull_4 : decode b_Things_isFull 4 = .ok (.bipush 40, 2) := by decide +kernel
theorem d_Things_isFull_6 : decode b_Things_isFull 6 = .ok (.if_icmp .lt 7, 3) := by decide +kernel
theorem d_Things_isFull_9 : decode b_Things_isFull 9 = .ok (.iconst 1, 1) := by decide +kernel
theorem d_Things_isFull_10 : decode b_Things_isFull 10 = .ok (.goto 4, 3) := by decide +kernel
theorem d_Things_isFull_13 : decode b_Things_isFull 13 = .ok (.iconst 0, 1) := by decide +kernel
theorem d_Things_isFull_14 : decode b_Things_isFull 14 = .ok (.ireturn, 1) := by decide +kernel
theorem d_Things_has_0 : decode b_Things_has 0 = .ok (.iload_n 1, 1) := by decide +kernel
theorem d_Things_has_1 : decode b_Things_has 1 = .ok (.ifCond .lt 15, 3) := by decide +kernel
theorem d_Things_has_4 : decode b_Things_has 4 = .ok (.iload_n 1, 1) := by decide +kernel
theorem d_Things_has_5 : decode b_Things_has 5 = .ok (.aload_n 0, 1) := by decide +kernel
theorem d_Things_has_6 : decode b_Things_has 6 = .ok (.getfield 21, 3) := by decide +kernel
theorem d_Things_has_9 : decode b_Things_has 9 = .ok (.if_icmp .ge 7, 3) := by decide +kernel
theorem d_Things_has_12 : decode b_Things_has 12 = .ok (.iconst 1, 1) := by decide +kernel
theorem d_Things_has_13 : decode b_Things_has 13 = .ok (.goto 4, 3) := by decide +kernel
theorem d_Things_has_16 : decode b_Things_has 16 = .ok (.iconst 0, 1) := by decide +kernel
theorem d_Things_has_17 : decode b_Things_has 17 = .ok (.ireturn, 1) := by decide +kernel
theorem d_Things_withAnyOf_0 : decode b_Things_withAnyOf 0 = .ok (.lconst 0, 1) := by decide +kernel
theorem d_Things_withAnyOf_1 : decode b_Things_withAnyOf 1 = .ok (.lstore_n 2, 1) := by decide +kernel
theorem d_Things_withAnyOf_2 : decode b_Things_withAnyOf 2 = .ok (.iconst 0, 1) := by decide +kernel
theorem d_Things_withAnyOf_3 : decode b_Things_withAnyOf 3 = .ok (.istore 4, 2) := by decide +kernel
theorem d_Things_withAnyOf_5 : decode b_Things_withAnyOf 5 = .ok (.iload 4, 2) := by decide +kernel
theorem d_Things_withAnyOf_7 : decode b_Things_withAnyOf 7 = .ok (.aload_n 0, 1) := by decide +kernel
theorem d_Things_withAnyOf_8 : decode b_Things_withAnyOf 8 = .ok (.getfield 21, 3) := by decide +kernel
theorem d_Things_withAnyOf_11 : decode b_Things_withAnyOf 11 = .ok (.if_icmp .ge 28, 3) := by decide +kernel
theorem d_Things_withAnyOf_14 : decode b_Things_withAnyOf 14 = .ok (.aload_n 0, 1) := by decide +kernel
theorem d_Things_withAnyOf_15 : decode b_Things_withAnyOf 15 = .ok (.getfield 9, 3) := by decide +kernel
theorem d_Things_withAnyOf_18 : decode b_Things_withAnyOf 18 = .ok (.iload 4, 2) := by decide +kernel
theorem d_Things_withAnyOf_20 : decode b_Things_withAnyOf 20 = .ok (.iaload, 1) := by decide +kernel
theorem d_Things_withAnyOf_21 : decode b_Things_withAnyOf 21 = .ok (.iload_n 1, 1) := by decide +kernel
theorem d_Things_withAnyOf_22 : decode b_Things_withAnyOf 22 = .ok (.iand, 1) := by decide +kernel
theorem d_Things_withAnyOf_23 : decode b_Things_withAnyOf 23 = .ok (.ifCond .eq 10, 3) := by decide +kernel
theorem d_Things_withAnyOf_26 : decode b_Things_withAnyOf 26 = .ok (.lload_n 2, 1) := by decide +kernel
theorem d_Things_withAnyOf_27 : decode b_Things_withAnyOf 27 = .ok (.lconst 1, 1) := by decide +kernel
theorem d_Things_withAnyOf_28 : decode b_Things_withAnyOf 28 = .ok (.iload 4, 2) := by decide +kernel
theorem d_Things_withAnyOf_30 : decode b_Things_withAnyOf 30 = .ok (.lshl, 1) := by decide +kernel
theorem d_Things_withAnyOf_31 : decode b_Things_withAnyOf 31 = .ok (.lor, 1) := by decide +kernel
theorem d_Things_withAnyOf_32 : decode b_Things_withAnyOf 32 = .ok (.lstore_n 2, 1) := by decide +kernel
theorem d_Things_withAnyOf_33 : decode b_Things_withAnyOf 33 = .ok (.iinc 4 1, 3) := by decide +kernel
theorem d_Things_withAnyOf_36 : decode b_Things_withAnyOf 36 = .ok (.goto (-31), 3) := by decide +kernel
theorem d_Things_withAnyOf_39 : decode b_Things_withAnyOf 39 = .ok (.lload_n 2, 1) := by decide +kernel
theorem d_Things_withAnyOf_40 : decode b_Things_withAnyOf 40 = .ok (.lreturn, 1) := by decide +kernel
theorem d_Things_changeFlags_0 : decode b_Things_changeFlags 0 = .ok (.aload_n 0, 1) := by decide +kernel
theorem d_Things_changeFlags_1 : decode b_Things_changeFlags 1 = .ok (.iload_n 1, 1) := by decide +kernel
theorem d_Things_changeFlags_2 : decode b_Things_changeFlags 2 = .ok (.invokevirtual 33, 3) := by decide +kernel
theorem d_Things_changeFlags_5 : decode b_Things_changeFlags 5 = .ok (.ifCond .ne 5, 3) := by decide +kernel
theorem d_Things_changeFlags_8 : decode b_Things_changeFlags 8 = .ok (.iconst (-1), 1) := by decide +kernel
theorem d_Things_changeFlags_9 : decode b_Things_changeFlags 9 = .ok (.ireturn, 1) := by decide +kernel
theorem d_Things_changeFlags_10 : decode b_Things_changeFlags 10 = .ok (.aload_n 0, 1) := by decide +kernel
theorem d_Things_changeFlags_11 : decode b_Things_changeFlags 11 = .ok (.getfield 9, 3) := by decide +kernel
theorem d_Things_changeFlags_14 : decode b_Things_changeFlags 14 = .ok (.iload_n 1, 1) := by decide +kernel
theorem d_Things_changeFlags_15 : decode b_Things_changeFlags 15 = .ok (.iaload, 1) := by decide +kernel
theorem d_Things_changeFlags_16 : decode b_Things_changeFlags 16 = .ok (.istore_n 3, 1) := by decide +kernel
theorem d_Things_changeFlags_17 : decode b_Things_changeFlags 17 = .ok (.aload_n 0, 1) := by decide +kernel
theorem d_Things_changeFlags_18 : decode b_Things_changeFlags 18 = .ok (.getfield 9, 3) := by decide +kernel
theorem d_Things_changeFlags_21 : decode b_Things_changeFlags 21 = .ok (.iload_n 1, 1) := by decide +kernel
theorem d_Things_changeFlags_22 : decode b_Things_changeFlags 22 = .ok (.iload_n 2, 1) := by decide +kernel
theorem d_Things_changeFlags_23 : decode b_Things_changeFlags 23 = .ok (.iastore, 1) := by decide +kernel
theorem d_Things_changeFlags_24 : decode b_Things_changeFlags 24 = .ok (.aload_n 0, 1) := by decide +kernel
theorem d_Things_changeFlags_25 : decode b_Things_changeFlags 25 = .ok (.aload_n 0, 1) := by decide +kernel
theorem d_Things_changeFlags_26 : decode b_Things_changeFlags 26 = .ok (.bipush 7, 2) := by decide +kernel
theorem d_Things_changeFlags_28 : decode b_Things_changeFlags 28 = .ok (.invokevirtual 37, 3) := by decide +kernel
theorem d_Things_changeFlags_31 : decode b_Things_changeFlags 31 = .ok (.putfield 41, 3) := by decide +kernel
theorem d_Things_changeFlags_34 : decode b_Things_changeFlags 34 = .ok (.aload_n 0, 1) := by decide +kernel
theorem d_Things_changeFlags_35 : decode b_Things_changeFlags 35 = .ok (.aload_n 0, 1) := by decide +kernel
theorem d_Things_changeFlags_36 : decode b_Things_changeFlags 36 = .ok (.bipush 6, 2) := by decide +kernel
theorem d_Things_changeFlags_38 : decode b_Things_changeFlags 38 = .ok (.invokevirtual 37, 3) := by decide +kernel
theorem d_Things_changeFlags_41 : decode b_Things_changeFlags 41 = .ok (.putfield 45, 3) := by decide +kernel
theorem d_Things_changeFlags_44 : decode b_Things_changeFlags 44 = .ok (.aload_n 0, 1) := by decide +kernel
theorem d_Things_changeFlags_45 : decode b_Things_changeFlags 45 = .ok (.aload_n 0, 1) := by decide +kernel
theorem d_Things_changeFlags_46 : decode b_Things_changeFlags 46 = .ok (.iconst 4, 1) := by decide +kernel
theorem d_Things_changeFlags_47 : decode b_Things_changeFlags 47 = .ok (.invokevirtual 37, 3) := by decide +kernel
theorem d_Things_changeFlags_50 : decode b_Things_changeFlags 50 = .ok (.putfield 48, 3) := by decide +kernel
theorem d_Things_changeFlags_53 : decode b_Things_changeFlags 53 = .ok (.aload_n 0, 1) := by decide +kernel
theorem d_Things_changeFlags_54 : decode b_Things_changeFlags 54 = .ok (.aload_n 0, 1) := by decide +kernel
theorem d_Things_changeFlags_55 : decode b_Things_changeFlags 55 = .ok (.bipush 8, 2) := by decide +kernel
theorem d_Things_changeFlags_57 : decode b_Things_changeFlags 57 = .ok (.invokevirtual 37, 3) := by decide +kernel
theorem d_Things_changeFlags_60 : decode b_Things_changeFlags 60 = .ok (.putfield 51, 3) := by decide +kernel
theorem d_Things_changeFlags_63 : decode b_Things_changeFlags 63 = .ok (.iload_n 3, 1) := by decide +kernel
theorem d_Things_changeFlags_64 : decode b_Things_changeFlags 64 = .ok (.ireturn, 1) := by decide +kernel
theorem d_Things_add_0 : decode b_Things_add 0 = .ok (.aload_n 0, 1) := by decide +kernel
theorem d_Things_add_1 : decode b_Things_add 1 = .ok (.invokevirtual 25, 3) := by decide +kernel
theorem d_Things_add_4 : decode b_Things_add 4 = .ok (.ifCond .eq 5, 3) := by decide +kernel
theorem d_Things_add_7 : decode b_Things_add 7 = .ok (.iconst (-1), 1) := by decide +kernel
theorem d_Things_add_8 : decode b_Things_add 8 = .ok (.ireturn, 1) := by decide +kernel
theorem d_Things_add_9 : decode b_Things_add 9 = .ok (.aload_n 0, 1) := by decide +kernel
theorem d_Things_add_10 : decode b_Things_add 10 = .ok (.dup, 1) := by decide +kernel
theorem d_Things_add_11 : decode b_Things_add 11 = .ok (.getfield 21, 3) := by decide +kernel
theorem d_Things_add_14 : decode b_Things_add 14 = .ok (.iconst 1, 1) := by decide +kernel
theorem d_Things_add_15 : decode b_Things_add 15 = .ok (.iadd, 1) := by decide +kernel
theorem d_Things_add_16 : decode b_Things_add 16 = .ok (.putfield 21, 3) := by decide +kernel
theorem d_Things_add_19 : decode b_Things_add 19 = .ok (.aload_n 0, 1) := by decide +kernel
theorem d_Things_add_20 : decode b_Things_add 20 = .ok (.aload_n 0, 1) := by decide +kernel
theorem d_Things_add_21 : decode b_Things_add 21 = .ok (.getfield 21, 3) := by decide +kernel
theorem d_Things_add_24 : decode b_Things_add 24 = .ok (.iconst 1, 1) := by decide +kernel
theorem d_Things_add_25 : decode b_Things_add 25 = .ok (.isub, 1) := by decide +kernel
theorem d_Things_add_26 : decode b_Things_add 26 = .ok (.iload_n 1, 1) := by decide +kernel
theorem d_Things_add_27 : decode b_Things_add 27 = .ok (.invokevirtual 29, 3) := by decide +kernel
theorem d_Things_add_30 : decode b_Things_add 30 = .ok (.pop, 1) := by decide +kernel
theorem d_Things_add_31 : decode b_Things_add 31 = .ok (.aload_n 0, 1) := by decide +kernel
theorem d_Things_add_32 : decode b_Things_add 32 = .ok (.getfield 21, 3) := by decide +kernel
theorem d_Things_add_35 : decode b_Things_add 35 = .ok (.iconst 1, 1) := by decide +kernel
theorem d_Things_add_36 : decode b_Things_add 36 = .ok (.isub, 1) := by decide +kernel
theorem d_Things_add_37 : decode b_Things_add 37 = .ok (.ireturn, 1) := by decide +kernel
theorem d_G_thing_0 : decode b_G_thing 0 = .ok (.iload_n 1, 1) := by decide +kernel
theorem d_G_thing_1 : decode b_G_thing 1 = .ok (.invokestatic 128, 3) := by decide +kernel
theorem d_G_thing_4 : decode b_G_thing 4 = .ok (.ifCond .ne 6, 3) := by decide +kernel
theorem d_G_thing_7 : decode b_G_thing 7 = .ok (.bipush (-102), 2) := by decide +kernel
theorem d_G_thing_9 : decode b_G_thing 9 = .ok (.ireturn, 1) := by decide +kernel
theorem d_G_thing_10 : decode b_G_thing 10 = .ok (.aload_n 0, 1) := by decide +kernel
theorem d_G_thing_11 : decode b_G_thing 11 = .ok (.getfield 10, 3) := by decide +kernel
theorem d_G_thing_14 : decode b_G_thing 14 = .ok (.invokevirtual 131, 3) := by decide +kernel
theorem d_G_thing_17 : decode b_G_thing 17 = .ok (.ifCond .eq 6, 3) := by decide +kernel
theorem d_G_thing_20 : decode b_G_thing 20 = .ok (.bipush (-104), 2) := by decide +kernel
theorem d_G_thing_22 : decode b_G_thing 22 = .ok (.ireturn, 1) := by decide +kernel
theorem d_G_thing_23 : decode b_G_thing 23 = .ok (.aload_n 0, 1) := by decide +kernel
theorem d_G_thing_24 : decode b_G_thing 24 = .ok (.getfield 10, 3) := by decide +kernel
theorem d_G_thing_27 : decode b_G_thing 27 = .ok (.iload_n 1, 1) := by decide +kernel
theorem d_G_thing_28 : decode b_G_thing 28 = .ok (.invokevirtual 132, 3) := by decide +kernel
theorem d_G_thing_31 : decode b_G_thing 31 = .ok (.ireturn, 1) := by decide +kernel
theorem d_Things_isNamed_0 : decode b_Things_isNamed 0 = .ok (.iconst 0, 1) := by decide +kernel
theorem d_Things_isNamed_1 : decode b_Things_isNamed 1 = .ok (.istore_n 3, 1) := by decide +kernel
theorem d_Things_isNamed_2 : decode b_Things_isNamed 2 = .ok (.aload_n 0, 1) := by decide +kernel
theorem d_Things_isNamed_3 : decode b_Things_isNamed 3 = .ok (.iload_n 1, 1) := by decide +kernel
theorem d_Things_isNamed_4 : decode b_Things_isNamed 4 = .ok (.invokevirtual 33, 3) := by decide +kernel
theorem d_Things_isNamed_7 : decode b_Things_isNamed 7 = .ok (.ifCond .eq 35, 3) := by decide +kernel
theorem d_Things_isNamed_10 : decode b_Things_isNamed 10 = .ok (.iload_n 3, 1) := by decide +kernel
theorem d_Things_isNamed_11 : decode b_Things_isNamed 11 = .ok (.aload_n 0, 1) := by decide +kernel
theorem d_Things_isNamed_12 : decode b_Things_isNamed 12 = .ok (.getfield 15, 3) := by decide +kernel
theorem d_Things_isNamed_15 : decode b_Things_isNamed 15 = .ok (.iload_n 1, 1) := by decide +kernel
theorem d_Things_isNamed_16 : decode b_Things_isNamed 16 = .ok (.iaload, 1) := by decide +kernel
theorem d_Things_isNamed_17 : decode b_Things_isNamed 17 = .ok (.if_icmp .ge 25, 3) := by decide +kernel
theorem d_Things_isNamed_20 : decode b_Things_isNamed 20 = .ok (.aload_n 0, 1) := by decide +kernel
theorem d_Things_isNamed_21 : decode b_Things_isNamed 21 = .ok (.getfield 18, 3) := by decide +kernel
theorem d_Things_isNamed_24 : decode b_Things_isNamed 24 = .ok (.iload_n 1, 1) := by decide +kernel
theorem d_Things_isNamed_25 : decode b_Things_isNamed 25 = .ok (.iconst 4, 1) := by decide +kernel
theorem d_Things_isNamed_26 : decode b_Things_isNamed 26 = .ok (.imul, 1) := by decide +kernel
theorem d_Things_isNamed_27 : decode b_Things_isNamed 27 = .ok (.iload_n 3, 1) := by decide +kernel
theorem d_Things_isNamed_28 : decode b_Things_isNamed 28 = .ok (.iadd, 1) := by decide +kernel
theorem d_Things_isNamed_29 : decode b_Things_isNamed 29 = .ok (.iaload, 1) := by decide +kernel
theorem d_Things_isNamed_30 : decode b_Things_isNamed 30 = .ok (.iload_n 2, 1) := by decide +kernel
theorem d_Things_isNamed_31 : decode b_Things_isNamed 31 = .ok (.if_icmp .ne 5, 3) := by decide +kernel
theorem d_Things_isNamed_34 : decode b_Things_isNamed 34 = .ok (.iconst 1, 1) := by decide +kernel
theorem d_Things_isNamed_35 : decode b_Things_isNamed 35 = .ok (.ireturn, 1) := by decide +kernel
theorem d_Things_isNamed_36 : decode b_Things_isNamed 36 = .ok (.iinc 3 1, 3) := by decide +kernel
theorem d_Things_isNamed_39 : decode b_Things_isNamed 39 = .ok (.goto (-37), 3) := by decide +kernel
theorem d_Things_isNamed_42 : decode b_Things_isNamed 42 = .ok (.iconst 0, 1) := by decide +kernel
theorem d_Things_isNamed_43 : decode b_Things_isNamed 43 = .ok (.ireturn, 1) := by decide +kernel
theorem d_Things_namesOf_0 : decode b_Things_namesOf 0 = .ok (.aload_n 0, 1) := by decide +kernel
theorem d_Things_namesOf_1 : decode b_Things_namesOf 1 = .ok (.iload_n 1, 1) := by decide +kernel
theorem d_Things_namesOf_2 : decode b_Things_namesOf 2 = .ok (.invokevirtual 33, 3) := by decide +kernel
theorem d_Things_namesOf_5 : decode b_Things_namesOf 5 = .ok (.ifCond .eq 12, 3) := by decide +kernel
theorem d_Things_namesOf_8 : decode b_Things_namesOf 8 = .ok (.aload_n 0, 1) := by decide +kernel
theorem d_Things_namesOf_9 : decode b_Things_namesOf 9 = .ok (.getfield 15, 3) := by decide +kernel
theorem d_Things_namesOf_12 : decode b_Things_namesOf 12 = .ok (.iload_n 1, 1) := by decide +kernel
theorem d_Things_namesOf_13 : decode b_Things_namesOf 13 = .ok (.iaload, 1) := by decide +kernel
theorem d_Things_namesOf_14 : decode b_Things_namesOf 14 = .ok (.goto 4, 3) := by decide +kernel
theorem d_Things_namesOf_17 : decode b_Things_namesOf 17 = .ok (.iconst 0, 1) := by decide +kernel
theorem d_Things_namesOf_18 : decode b_Things_namesOf 18 = .ok (.ireturn, 1) := by decide +kernel
theorem d_Things_addName_0 : decode b_Things_addName 0 = .ok (.aload_n 0, 1) := by decide +kernel
theorem d_Things_addName_1 : decode b_Things_addName 1 = .ok (.iload_n 1, 1) := by decide +kernel
theorem d_Things_addName_2 : decode b_Things_addName 2 = .ok (.invokevirtual 33, 3) := by decide +kernel
theorem d_Things_addName_5 : decode b_Things_addName 5 = .ok (.ifCond .eq 48, 3) := by decide +kernel
theorem d_Things_addName_8 : decode b_Things_addName 8 = .ok (.aload_n 0, 1) := by decide +kernel
theorem d_Things_addName_9 : decode b_Things_addName 9 = .ok (.iload_n 1, 1) := by decide +kernel
theorem d_Things_addName_10 : decode b_Things_addName 10 = .ok (.iload_n 2, 1) := by decide +kernel
theorem d_Things_addName_11 : decode b_Things_addName 11 = .ok (.invokevirtual 54, 3) := by decide +kernel
theorem d_Things_addName_14 : decode b_Things_addName 14 = .ok (.ifCond .ne 39, 3) := by decide +kernel
theorem d_Things_addName_17 : decode b_Things_addName 17 = .ok (.aload_n 0, 1) := by decide +kernel
theorem d_Things_addName_18 : decode b_Things_addName 18 = .ok (.getfield 15, 3) := by decide +kernel
theorem d_Things_addName_21 : decode b_Things_addName 21 = .ok (.iload_n 1, 1) := by decide +kernel
theorem d_Things_addName_22 : decode b_Things_addName 22 = .ok (.iaload, 1) := by decide +kernel
theorem d_Things_addName_23 : decode b_Things_addName 23 = .ok (.iconst 4, 1) := by decide +kernel
theorem d_Things_addName_24 : decode b_Things_addName 24 = .ok (.if_icmp .ge 29, 3) := by decide +kernel
theorem d_Things_addName_27 : decode b_Things_addName 27 = .ok (.aload_n 0, 1) := by decide +kernel
theorem d_Things_addName_28 : decode b_Things_addName 28 = .ok (.getfield 18, 3) := by decide +kernel
theorem d_Things_addName_31 : decode b_Things_addName 31 = .ok (.iload_n 1, 1) := by decide +kernel
theorem d_Things_addName_32 : decode b_Things_addName 32 = .ok (.iconst 4, 1) := by decide +kernel
theorem d_Things_addName_33 : decode b_Things_addName 33 = .ok (.imul, 1) := by decide +kernel
theorem d_Things_addName_34 : decode b_Things_addName 34 = .ok (.aload_n 0, 1) := by decide +kernel
theorem d_Things_addName_35 : decode b_Things_addName 35 = .ok (.getfield 15, 3) := by decide +kernel
theorem d_Things_addName_38 : decode b_Things_addName 38 = .ok (.iload_n 1, 1) := by decide +kernel
theorem d_Things_addName_39 : decode b_Things_addName 39 = .ok (.iaload, 1) := by decide +kernel
theorem d_Things_addName_40 : decode b_Things_addName 40 = .ok (.iadd, 1) := by decide +kernel
theorem d_Things_addName_41 : decode b_Things_addName 41 = .ok (.iload_n 2, 1) := by decide +kernel
theorem d_Things_addName_42 : decode b_Things_addName 42 = .ok (.iastore, 1) := by decide +kernel
theorem d_Things_addName_43 : decode b_Things_addName 43 = .ok (.aload_n 0, 1) := by decide +kernel
theorem d_Things_addName_44 : decode b_Things_addName 44 = .ok (.getfield 15, 3) := by decide +kernel
theorem d_Things_addName_47 : decode b_Things_addName 47 = .ok (.iload_n 1, 1) := by decide +kernel
theorem d_Things_addName_48 : decode b_Things_addName 48 = .ok (.dup2, 1) := by decide +kernel
theorem d_Things_addName_49 : decode b_Things_addName 49 = .ok (.iaload, 1) := by decide +kernel
theorem d_Things_addName_50 : decode b_Things_addName 50 = .ok (.iconst 1, 1) := by decide +kernel
theorem d_Things_addName_51 : decode b_Things_addName 51 = .ok (.iadd, 1) := by decide +kernel
theorem d_Things_addName_52 : decode b_Things_addName 52 = .ok (.iastore, 1) := by decide +kernel
theorem d_Things_addName_53 : decode b_Things_addName 53 = .ok (.aload_n 0, 1) := by decide +kernel
theorem d_Things_addName_54 : decode b_Things_addName 54 = .ok (.iload_n 1, 1) := by decide +kernel
theorem d_Things_addName_55 : decode b_Things_addName 55 = .ok (.invokevirtual 58, 3) := by decide +kernel
theorem d_Things_addName_58 : decode b_Things_addName 58 = .ok (.ireturn, 1) := by decide +kernel
theorem d_G_name_0 : decode b_G_name 0 = .ok (.aload_n 0, 1) := by decide +kernel
end
section
theorem d_G_name_1 : decode b_G_name 1 = .ok (.getfield 10, 3) := by decide +kernel
theorem d_G_name_4 : decode b_G_name 4 = .ok (.iload_n 1, 1) := by decide +kernel
theorem d_G_name_5 : decode b_G_name 5 = .ok (.invokevirtual 133, 3) := by decide +kernel
theorem d_G_name_8 : decode b_G_name 8 = .ok (.ifCond .ne 6, 3) := by decide +kernel
theorem d_G_name_11 : decode b_G_name 11 = .ok (.bipush (-101), 2) := by decide +kernel
theorem d_G_name_13 : decode b_G_name 13 = .ok (.ireturn, 1) := by decide +kernel
theorem d_G_name_14 : decode b_G_name 14 = .ok (.iload_n 2, 1) := by decide +kernel
theorem d_G_name_15 : decode b_G_name 15 = .ok (.invokestatic 134, 3) := by decide +kernel
theorem d_G_name_18 : decode b_G_name 18 = .ok (.ifCond .ne 6, 3) := by decide +kernel
theorem d_G_name_21 : decode b_G_name 21 = .ok (.bipush (-102), 2) := by decide +kernel
theorem d_G_name_23 : decode b_G_name 23 = .ok (.ireturn, 1) := by decide +kernel
theorem d_G_name_24 : decode b_G_name 24 = .ok (.aload_n 0, 1) := by decide +kernel
theorem d_G_name_25 : decode b_G_name 25 = .ok (.getfield 10, 3) := by decide +kernel
theorem d_G_name_28 : decode b_G_name 28 = .ok (.iload_n 1, 1) := by decide +kernel
theorem d_G_name_29 : decode b_G_name 29 = .ok (.iload_n 2, 1) := by decide +kernel
theorem d_G_name_30 : decode b_G_name 30 = .ok (.invokevirtual 137, 3) := by decide +kernel
theorem d_G_name_33 : decode b_G_name 33 = .ok (.ifCond .ne 18, 3) := by decide +kernel
theorem d_G_name_36 : decode b_G_name 36 = .ok (.aload_n 0, 1) := by decide +kernel
theorem d_G_name_37 : decode b_G_name 37 = .ok (.getfield 10, 3) := by decide +kernel
theorem d_G_name_40 : decode b_G_name 40 = .ok (.iload_n 1, 1) := by decide +kernel
theorem d_G_name_41 : decode b_G_name 41 = .ok (.invokevirtual 140, 3) := by decide +kernel
theorem d_G_name_44 : decode b_G_name 44 = .ok (.iconst 4, 1) := by decide +kernel
theorem d_G_name_45 : decode b_G_name 45 = .ok (.if_icmp .lt 6, 3) := by decide +kernel
theorem d_G_name_48 : decode b_G_name 48 = .ok (.bipush (-104), 2) := by decide +kernel
theorem d_G_name_50 : decode b_G_name 50 = .ok (.ireturn, 1) := by decide +kernel
theorem d_G_name_51 : decode b_G_name 51 = .ok (.aload_n 0, 1) := by decide +kernel
theorem d_G_name_52 : decode b_G_name 52 = .ok (.getfield 10, 3) := by decide +kernel
theorem d_G_name_55 : decode b_G_name 55 = .ok (.iload_n 1, 1) := by decide +kernel
theorem d_G_name_56 : decode b_G_name 56 = .ok (.iload_n 2, 1) := by decide +kernel
theorem d_G_name_57 : decode b_G_name 57 = .ok (.invokevirtual 143, 3) := by decide +kernel
theorem d_G_name_60 : decode b_G_name 60 = .ok (.ireturn, 1) := by decide +kernel
theorem d_G_flags_0 : decode b_G_flags 0 = .ok (.aload_n 0, 1) := by decide +kernel
theorem d_G_flags_1 : decode b_G_flags 1 = .ok (.getfield 10, 3) := by decide +kernel
theorem d_G_flags_4 : decode b_G_flags 4 = .ok (.iload_n 1, 1) := by decide +kernel
theorem d_G_flags_5 : decode b_G_flags 5 = .ok (.invokevirtual 133, 3) := by decide +kernel
theorem d_G_flags_8 : decode b_G_flags 8 = .ok (.ifCond .ne 6, 3) := by decide +kernel
theorem d_G_flags_11 : decode b_G_flags 11 = .ok (.bipush (-101), 2) := by decide +kernel
theorem d_G_flags_13 : decode b_G_flags 13 = .ok (.ireturn, 1) := by decide +kernel
theorem d_G_flags_14 : decode b_G_flags 14 = .ok (.iload_n 2, 1) := by decide +kernel
theorem d_G_flags_15 : decode b_G_flags 15 = .ok (.invokestatic 128, 3) := by decide +kernel
theorem d_G_flags_18 : decode b_G_flags 18 = .ok (.ifCond .ne 6, 3) := by decide +kernel
theorem d_G_flags_21 : decode b_G_flags 21 = .ok (.bipush (-102), 2) := by decide +kernel
theorem d_G_flags_23 : decode b_G_flags 23 = .ok (.ireturn, 1) := by decide +kernel
theorem d_G_flags_24 : decode b_G_flags 24 = .ok (.aload_n 0, 1) := by decide +kernel
theorem d_G_flags_25 : decode b_G_flags 25 = .ok (.getfield 10, 3) := by decide +kernel
theorem d_G_flags_28 : decode b_G_flags 28 = .ok (.iload_n 1, 1) := by decide +kernel
theorem d_G_flags_29 : decode b_G_flags 29 = .ok (.iload_n 2, 1) := by decide +kernel
theorem d_G_flags_30 : decode b_G_flags 30 = .ok (.invokevirtual 146, 3) := by decide +kernel
theorem d_G_flags_33 : decode b_G_flags 33 = .ok (.ireturn, 1) := by decide +kernel
theorem d_Values_indexOf_0 : decode b_Values_indexOf 0 = .ok (.iconst 0, 1) := by decide +kernel
theorem d_Values_indexOf_1 : decode b_Values_indexOf 1 = .ok (.istore_n 3, 1) := by decide +kernel
theorem d_Values_indexOf_2 : decode b_Values_indexOf 2 = .ok (.iload_n 3, 1) := by decide +kernel
theorem d_Values_indexOf_3 : decode b_Values_indexOf 3 = .ok (.aload_n 0, 1) := by decide +kernel
theorem d_Values_indexOf_4 : decode b_Values_indexOf 4 = .ok (.getfield 20, 3) := by decide +kernel
theorem d_Values_indexOf_7 : decode b_Values_indexOf 7 = .ok (.invokevirtual 26, 3) := by decide +kernel
theorem d_Values_indexOf_10 : decode b_Values_indexOf 10 = .ok (.if_icmp .ge 35, 3) := by decide +kernel
theorem d_Values_indexOf_13 : decode b_Values_indexOf 13 = .ok (.aload_n 0, 1) := by decide +kernel
theorem d_Values_indexOf_14 : decode b_Values_indexOf 14 = .ok (.getfield 14, 3) := by decide +kernel
theorem d_Values_indexOf_17 : decode b_Values_indexOf 17 = .ok (.iload_n 3, 1) := by decide +kernel
theorem d_Values_indexOf_18 : decode b_Values_indexOf 18 = .ok (.invokevirtual 30, 3) := by decide +kernel
theorem d_Values_indexOf_21 : decode b_Values_indexOf 21 = .ok (.iload_n 1, 1) := by decide +kernel
theorem d_Values_indexOf_22 : decode b_Values_indexOf 22 = .ok (.if_icmp .ne 17, 3) := by decide +kernel
theorem d_Values_indexOf_25 : decode b_Values_indexOf 25 = .ok (.aload_n 0, 1) := by decide +kernel
theorem d_Values_indexOf_26 : decode b_Values_indexOf 26 = .ok (.getfield 20, 3) := by decide +kernel
theorem d_Values_indexOf_29 : decode b_Values_indexOf 29 = .ok (.iload_n 3, 1) := by decide +kernel
theorem d_Values_indexOf_30 : decode b_Values_indexOf 30 = .ok (.invokevirtual 30, 3) := by decide +kernel
theorem d_Values_indexOf_33 : decode b_Values_indexOf 33 = .ok (.iload_n 2, 1) := by decide +kernel
theorem d_Values_indexOf_34 : decode b_Values_indexOf 34 = .ok (.if_icmp .ne 5, 3) := by decide +kernel
theorem d_Values_indexOf_37 : decode b_Values_indexOf 37 = .ok (.iload_n 3, 1) := by decide +kernel
theorem d_Values_indexOf_38 : decode b_Values_indexOf 38 = .ok (.ireturn, 1) := by decide +kernel
theorem d_Values_indexOf_39 : decode b_Values_indexOf 39 = .ok (.iinc 3 1, 3) := by decide +kernel
theorem d_Values_indexOf_42 : decode b_Values_indexOf 42 = .ok (.goto (-40), 3) := by decide +kernel
theorem d_Values_indexOf_45 : decode b_Values_indexOf 45 = .ok (.iconst (-1), 1) := by decide +kernel
theorem d_Values_indexOf_46 : decode b_Values_indexOf 46 = .ok (.ireturn, 1) := by decide +kernel
theorem d_Values_find_0 : decode b_Values_find 0 = .ok (.aload_n 0, 1) := by decide +kernel
theorem d_Values_find_1 : decode b_Values_find 1 = .ok (.getfield 23, 3) := by decide +kernel
theorem d_Values_find_4 : decode b_Values_find 4 = .ok (.aload_n 0, 1) := by decide +kernel
theorem d_Values_find_5 : decode b_Values_find 5 = .ok (.iload_n 1, 1) := by decide +kernel
theorem d_Values_find_6 : decode b_Values_find 6 = .ok (.iload_n 2, 1) := by decide +kernel
theorem d_Values_find_7 : decode b_Values_find 7 = .ok (.invokevirtual 34, 3) := by decide +kernel
theorem d_Values_find_10 : decode b_Values_find 10 = .ok (.invokevirtual 30, 3) := by decide +kernel
theorem d_Values_find_13 : decode b_Values_find 13 = .ok (.ireturn, 1) := by decide +kernel
theorem d_Row_put_0 : decode b_Row_put 0 = .ok (.iload_n 1, 1) := by decide +kernel
theorem d_Row_put_1 : decode b_Row_put 1 = .ok (.ifCond .lt 18, 3) := by decide +kernel
theorem d_Row_put_4 : decode b_Row_put 4 = .ok (.iload_n 1, 1) := by decide +kernel
theorem d_Row_put_5 : decode b_Row_put 5 = .ok (.aload_n 0, 1) := by decide +kernel
theorem d_Row_put_6 : decode b_Row_put 6 = .ok (.getfield 21, 3) := by decide +kernel
theorem d_Row_put_9 : decode b_Row_put 9 = .ok (.if_icmp .ge 10, 3) := by decide +kernel
theorem d_Row_put_12 : decode b_Row_put 12 = .ok (.aload_n 0, 1) := by decide +kernel
theorem d_Row_put_13 : decode b_Row_put 13 = .ok (.getfield 15, 3) := by decide +kernel
theorem d_Row_put_16 : decode b_Row_put 16 = .ok (.iload_n 1, 1) := by decide +kernel
theorem d_Row_put_17 : decode b_Row_put 17 = .ok (.iload_n 2, 1) := by decide +kernel
theorem d_Row_put_18 : decode b_Row_put 18 = .ok (.iastore, 1) := by decide +kernel
theorem d_Row_put_19 : decode b_Row_put 19 = .ok (.return_, 1) := by decide +kernel
theorem d_Values_count_0 : decode b_Values_count 0 = .ok (.aload_n 0, 1) := by decide +kernel
theorem d_Values_count_1 : decode b_Values_count 1 = .ok (.getfield 23, 3) := by decide +kernel
theorem d_Values_count_4 : decode b_Values_count 4 = .ok (.invokevirtual 26, 3) := by decide +kernel
theorem d_Values_count_7 : decode b_Values_count 7 = .ok (.ireturn, 1) := by decide +kernel
theorem d_Values_put_0 : decode b_Values_put 0 = .ok (.aload_n 0, 1) := by decide +kernel
theorem d_Values_put_1 : decode b_Values_put 1 = .ok (.iload_n 1, 1) := by decide +kernel
theorem d_Values_put_2 : decode b_Values_put 2 = .ok (.iload_n 2, 1) := by decide +kernel
theorem d_Values_put_3 : decode b_Values_put 3 = .ok (.invokevirtual 34, 3) := by decide +kernel
theorem d_Values_put_6 : decode b_Values_put 6 = .ok (.istore 4, 2) := by decide +kernel
theorem d_Values_put_8 : decode b_Values_put 8 = .ok (.iload 4, 2) := by decide +kernel
theorem d_Values_put_10 : decode b_Values_put 10 = .ok (.iconst (-1), 1) := by decide +kernel
theorem d_Values_put_11 : decode b_Values_put 11 = .ok (.if_icmp .ne 30, 3) := by decide +kernel
theorem d_Values_put_14 : decode b_Values_put 14 = .ok (.aload_n 0, 1) := by decide +kernel
theorem d_Values_put_15 : decode b_Values_put 15 = .ok (.getfield 14, 3) := by decide +kernel
theorem d_Values_put_18 : decode b_Values_put 18 = .ok (.iload_n 1, 1) := by decide +kernel
theorem d_Values_put_19 : decode b_Values_put 19 = .ok (.invokevirtual 38, 3) := by decide +kernel
theorem d_Values_put_22 : decode b_Values_put 22 = .ok (.aload_n 0, 1) := by decide +kernel
theorem d_Values_put_23 : decode b_Values_put 23 = .ok (.getfield 20, 3) := by decide +kernel
theorem d_Values_put_26 : decode b_Values_put 26 = .ok (.iload_n 2, 1) := by decide +kernel
theorem d_Values_put_27 : decode b_Values_put 27 = .ok (.invokevirtual 38, 3) := by decide +kernel
theorem d_Values_put_30 : decode b_Values_put 30 = .ok (.aload_n 0, 1) := by decide +kernel
theorem d_Values_put_31 : decode b_Values_put 31 = .ok (.getfield 23, 3) := by decide +kernel
theorem d_Values_put_34 : decode b_Values_put 34 = .ok (.iload_n 3, 1) := by decide +kernel
theorem d_Values_put_35 : decode b_Values_put 35 = .ok (.invokevirtual 38, 3) := by decide +kernel
theorem d_Values_put_38 : decode b_Values_put 38 = .ok (.goto 13, 3) := by decide +kernel
theorem d_Values_put_41 : decode b_Values_put 41 = .ok (.aload_n 0, 1) := by decide +kernel
theorem d_Values_put_42 : decode b_Values_put 42 = .ok (.getfield 23, 3) := by decide +kernel
theorem d_Values_put_45 : decode b_Values_put 45 = .ok (.iload 4, 2) := by decide +kernel
theorem d_Values_put_47 : decode b_Values_put 47 = .ok (.iload_n 3, 1) := by decide +kernel
theorem d_Values_put_48 : decode b_Values_put 48 = .ok (.invokevirtual 41, 3) := by decide +kernel
theorem d_Values_put_51 : decode b_Values_put 51 = .ok (.aload_n 0, 1) := by decide +kernel
theorem d_Values_put_52 : decode b_Values_put 52 = .ok (.invokevirtual 45, 3) := by decide +kernel
theorem d_Values_put_55 : decode b_Values_put 55 = .ok (.ireturn, 1) := by decide +kernel
theorem d_G_custom_0 : decode b_G_custom 0 = .ok (.iload_n 2, 1) := by decide +kernel
theorem d_G_custom_1 : decode b_G_custom 1 = .ok (.bipush 10, 2) := by decide +kernel
theorem d_G_custom_3 : decode b_G_custom 3 = .ok (.if_icmp .lt 14, 3) := by decide +kernel
theorem d_G_custom_6 : decode b_G_custom 6 = .ok (.iload_n 2, 1) := by decide +kernel
theorem d_G_custom_7 : decode b_G_custom 7 = .ok (.sipush 19999, 3) := by decide +kernel
theorem d_G_custom_10 : decode b_G_custom 10 = .ok (.if_icmp .gt 7, 3) := by decide +kernel
theorem d_G_custom_13 : decode b_G_custom 13 = .ok (.iconst 1, 1) := by decide +kernel
theorem d_G_custom_14 : decode b_G_custom 14 = .ok (.goto 4, 3) := by decide +kernel
theorem d_G_custom_17 : decode b_G_custom 17 = .ok (.iconst 0, 1) := by decide +kernel
theorem d_G_custom_18 : decode b_G_custom 18 = .ok (.istore 4, 2) := by decide +kernel
theorem d_G_custom_20 : decode b_G_custom 20 = .ok (.iload_n 1, 1) := by decide +kernel
theorem d_G_custom_21 : decode b_G_custom 21 = .ok (.ifCond .lt 25, 3) := by decide +kernel
theorem d_G_custom_24 : decode b_G_custom 24 = .ok (.iload_n 1, 1) := by decide +kernel
theorem d_G_custom_25 : decode b_G_custom 25 = .ok (.bipush 9, 2) := by decide +kernel
theorem d_G_custom_27 : decode b_G_custom 27 = .ok (.if_icmp .gt 19, 3) := by decide +kernel
theorem d_G_custom_30 : decode b_G_custom 30 = .ok (.iload 4, 2) := by decide +kernel
theorem d_G_custom_32 : decode b_G_custom 32 = .ok (.ifCond .eq 14, 3) := by decide +kernel
theorem d_G_custom_35 : decode b_G_custom 35 = .ok (.iload_n 3, 1) := by decide +kernel
theorem d_G_custom_36 : decode b_G_custom 36 = .ok (.ifCond .lt 10, 3) := by decide +kernel
theorem d_G_custom_39 : decode b_G_custom 39 = .ok (.iload_n 3, 1) := by decide +kernel
theorem d_G_custom_40 : decode b_G_custom 40 = .ok (.sipush 9999, 3) := by decide +kernel
theorem d_G_custom_43 : decode b_G_custom 43 = .ok (.if_icmp .le 6, 3) := by decide +kernel
theorem d_G_custom_46 : decode b_G_custom 46 = .ok (.bipush (-102), 2) := by decide +kernel
theorem d_G_custom_48 : decode b_G_custom 48 = .ok (.ireturn, 1) := by decide +kernel
theorem d_G_custom_49 : decode b_G_custom 49 = .ok (.aload_n 0, 1) := by decide +kernel
theorem d_G_custom_50 : decode b_G_custom 50 = .ok (.getfield 33, 3) := by decide +kernel
theorem d_G_custom_53 : decode b_G_custom 53 = .ok (.iload_n 1, 1) := by decide +kernel
theorem d_G_custom_54 : decode b_G_custom 54 = .ok (.iload_n 2, 1) := by decide +kernel
theorem d_G_custom_55 : decode b_G_custom 55 = .ok (.invokevirtual 149, 3) := by decide +kernel
theorem d_G_custom_58 : decode b_G_custom 58 = .ok (.iconst (-1), 1) := by decide +kernel
theorem d_G_custom_59 : decode b_G_custom 59 = .ok (.if_icmp .ne 18, 3) := by decide +kernel
theorem d_G_custom_62 : decode b_G_custom 62 = .ok (.aload_n 0, 1) := by decide +kernel
theorem d_G_custom_63 : decode b_G_custom 63 = .ok (.getfield 33, 3) := by decide +kernel
theorem d_G_custom_66 : decode b_G_custom 66 = .ok (.invokevirtual 152, 3) := by decide +kernel
theorem d_G_custom_69 : decode b_G_custom 69 = .ok (.bipush 40, 2) := by decide +kernel
theorem d_G_custom_71 : decode b_G_custom 71 = .ok (.if_icmp .lt 6, 3) := by decide +kernel
theorem d_G_custom_74 : decode b_G_custom 74 = .ok (.bipush (-104), 2) := by decide +kernel
theorem d_G_custom_76 : decode b_G_custom 76 = .ok (.ireturn, 1) := by decide +kernel
theorem d_G_custom_77 : decode b_G_custom 77 = .ok (.aload_n 0, 1) := by decide +kernel
theorem d_G_custom_78 : decode b_G_custom 78 = .ok (.getfield 33, 3) := by decide +kernel
theorem d_G_custom_81 : decode b_G_custom 81 = .ok (.iload_n 1, 1) := by decide +kernel
theorem d_G_custom_82 : decode b_G_custom 82 = .ok (.iload_n 2, 1) := by decide +kernel
theorem d_G_custom_83 : decode b_G_custom 83 = .ok (.iload_n 3, 1) := by decide +kernel
theorem d_G_custom_84 : decode b_G_custom 84 = .ok (.invokevirtual 156, 3) := by decide +kernel
theorem d_G_custom_87 : decode b_G_custom 87 = .ok (.ireturn, 1) := by decide +kernel
theorem d_G_isWord_0 : decode b_G_isWord 0 = .ok (.iload_n 0, 1) := by decide +kernel
theorem d_G_isWord_1 : decode b_G_isWord 1 = .ok (.iconst 1, 1) := by decide +kernel
theorem d_G_isWord_2 : decode b_G_isWord 2 = .ok (.if_icmp .lt 9, 3) := by decide +kernel
theorem d_G_isWord_5 : decode b_G_isWord 5 = .ok (.iload_n 0, 1) := by decide +kernel
theorem d_G_isWord_6 : decode b_G_isWord 6 = .ok (.bipush 7, 2) := by decide +kernel
theorem d_G_isWord_8 : decode b_G_isWord 8 = .ok (.if_icmp .le 16, 3) := by decide +kernel
theorem d_G_isWord_11 : decode b_G_isWord 11 = .ok (.iload_n 0, 1) := by decide +kernel
theorem d_G_isWord_12 : decode b_G_isWord 12 = .ok (.bipush 10, 2) := by decide +kernel
theorem d_G_isWord_14 : decode b_G_isWord 14 = .ok (.if_icmp .lt 14, 3) := by decide +kernel
theorem d_G_isWord_17 : decode b_G_isWord 17 = .ok (.iload_n 0, 1) := by decide +kernel
theorem d_G_isWord_18 : decode b_G_isWord 18 = .ok (.sipush 19999, 3) := by decide +kernel
theorem d_G_isWord_21 : decode b_G_isWord 21 = .ok (.if_icmp .gt 7, 3) := by decide +kernel
theorem d_G_isWord_24 : decode b_G_isWord 24 = .ok (.iconst 1, 1) := by decide +kernel
theorem d_G_isWord_25 : decode b_G_isWord 25 = .ok (.goto 4, 3) := by decide +kernel
theorem d_G_isWord_28 : decode b_G_isWord 28 = .ok (.iconst 0, 1) := by decide +kernel
theorem d_G_isWord_29 : decode b_G_isWord 29 = .ok (.ireturn, 1) := by decide +kernel
theorem d_G_word_0 : decode b_G_word 0 = .ok (.iload_n 1, 1) := by decide +kernel
theorem d_G_word_1 : decode b_G_word 1 = .ok (.invokestatic 159, 3) := by decide +kernel
theorem d_G_word_4 : decode b_G_word 4 = .ok (.ifCond .ne 6, 3) := by decide +kernel
theorem d_G_word_7 : decode b_G_word 7 = .ok (.bipush (-102), 2) := by decide +kernel
theorem d_G_word_9 : decode b_G_word 9 = .ok (.ireturn, 1) := by decide +kernel
theorem d_G_word_10 : decode b_G_word 10 = .ok (.aload_n 0, 1) := by decide +kernel
theorem d_G_word_11 : decode b_G_word 11 = .ok (.getfield 42, 3) := by decide +kernel
theorem d_G_word_14 : decode b_G_word 14 = .ok (.invokevirtual 162, 3) := by decide +kernel
theorem d_G_word_17 : decode b_G_word 17 = .ok (.bipush 60, 2) := by decide +kernel
theorem d_G_word_19 : decode b_G_word 19 = .ok (.if_icmp .lt 6, 3) := by decide +kernel
theorem d_G_word_22 : decode b_G_word 22 = .ok (.bipush (-104), 2) := by decide +kernel
theorem d_G_word_24 : decode b_G_word 24 = .ok (.ireturn, 1) := by decide +kernel
theorem d_G_word_25 : decode b_G_word 25 = .ok (.aload_n 0, 1) := by decide +kernel
theorem d_G_word_26 : decode b_G_word 26 = .ok (.getfield 42, 3) := by decide +kernel
theorem d_G_word_29 : decode b_G_word 29 = .ok (.iload_n 1, 1) := by decide +kernel
theorem d_G_word_30 : decode b_G_word 30 = .ok (.invokevirtual 165, 3) := by decide +kernel
theorem d_G_word_33 : decode b_G_word 33 = .ok (.aload_n 0, 1) := by decide +kernel
theorem d_G_word_34 : decode b_G_word 34 = .ok (.getfield 42, 3) := by decide +kernel
theorem d_G_word_37 : decode b_G_word 37 = .ok (.invokevirtual 162, 3) := by decide +kernel
theorem d_G_word_40 : decode b_G_word 40 = .ok (.ireturn, 1) := by decide +kernel
theorem d_Row_empty_0 : decode b_Row_empty 0 = .ok (.aload_n 0, 1) := by decide +kernel
theorem d_Row_empty_1 : decode b_Row_empty 1 = .ok (.iconst 0, 1) := by decide +kernel
theorem d_Row_empty_2 : decode b_Row_empty 2 = .ok (.putfield 21, 3) := by decide +kernel
theorem d_Row_empty_5 : decode b_Row_empty 5 = .ok (.return_, 1) := by decide +kernel
theorem d_G_clear_0 : decode b_G_clear 0 = .ok (.aload_n 0, 1) := by decide +kernel
theorem d_G_clear_1 : decode b_G_clear 1 = .ok (.getfield 42, 3) := by decide +kernel
theorem d_G_clear_4 : decode b_G_clear 4 = .ok (.invokevirtual 162, 3) := by decide +kernel
theorem d_G_clear_7 : decode b_G_clear 7 = .ok (.istore_n 1, 1) := by decide +kernel
theorem d_G_clear_8 : decode b_G_clear 8 = .ok (.aload_n 0, 1) := by decide +kernel
theorem d_G_clear_9 : decode b_G_clear 9 = .ok (.getfield 42, 3) := by decide +kernel
theorem d_G_clear_12 : decode b_G_clear 12 = .ok (.invokevirtual 167, 3) := by decide +kernel
theorem d_G_clear_15 : decode b_G_clear 15 = .ok (.iload_n 1, 1) := by decide +kernel
theorem d_G_clear_16 : decode b_G_clear 16 = .ok (.ireturn, 1) := by decide +kernel
theorem d_Things_namedOf_0 : decode b_Things_namedOf 0 = .ok (.lconst 0, 1) := by decide +kernel
theorem d_Things_namedOf_1 : decode b_Things_namedOf 1 = .ok (.lstore 4, 2) := by decide +kernel
theorem d_Things_namedOf_3 : decode b_Things_namedOf 3 = .ok (.iconst 0, 1) := by decide +kernel
theorem d_Things_namedOf_4 : decode b_Things_namedOf 4 = .ok (.istore 6, 2) := by decide +kernel
theorem d_Things_namedOf_6 : decode b_Things_namedOf 6 = .ok (.iload 6, 2) := by decide +kernel
theorem d_Things_namedOf_8 : decode b_Things_namedOf 8 = .ok (.aload_n 0, 1) := by decide +kernel
theorem d_Things_namedOf_9 : decode b_Things_namedOf 9 = .ok (.getfield 21, 3) := by decide +kernel
theorem d_Things_namedOf_12 : decode b_Things_namedOf 12 = .ok (.if_icmp .ge 78, 3) := by decide +kernel
theorem d_Things_namedOf_15 : decode b_Things_namedOf 15 = .ok (.lload_n 1, 1) := by decide +kernel
theorem d_Things_namedOf_16 : decode b_Things_namedOf 16 = .ok (.iload 6, 2) := by decide +kernel
theorem d_Things_namedOf_18 : decode b_Things_namedOf 18 = .ok (.lshr, 1) := by decide +kernel
theorem d_Things_namedOf_19 : decode b_Things_namedOf 19 = .ok (.lconst 1, 1) := by decide +kernel
theorem d_Things_namedOf_20 : decode b_Things_namedOf 20 = .ok (.land, 1) := by decide +kernel
theorem d_Things_namedOf_21 : decode b_Things_namedOf 21 = .ok (.lconst 0, 1) := by decide +kernel
theorem d_Things_namedOf_22 : decode b_Things_namedOf 22 = .ok (.lcmp, 1) := by decide +kernel
theorem d_Things_namedOf_23 : decode b_Things_namedOf 23 = .ok (.ifCond .eq 7, 3) := by decide +kernel
theorem d_Things_namedOf_26 : decode b_Things_namedOf 26 = .ok (.iconst 1, 1) := by decide +kernel
theorem d_Things_namedOf_27 : decode b_Things_namedOf 27 = .ok (.goto 4, 3) := by decide +kernel
theorem d_Things_namedOf_30 : decode b_Things_namedOf 30 = .ok (.iconst 0, 1) := by decide +kernel
theorem d_Things_namedOf_31 : decode b_Things_namedOf 31 = .ok (.istore 7, 2) := by decide +kernel
theorem d_Things_namedOf_33 : decode b_Things_namedOf 33 = .ok (.iconst 0, 1) := by decide +kernel
theorem d_Things_namedOf_34 : decode b_Things_namedOf 34 = .ok (.istore 8, 2) := by decide +kernel
theorem d_Things_namedOf_36 : decode b_Things_namedOf 36 = .ok (.iload 7, 2) := by decide +kernel
theorem d_Things_namedOf_38 : decode b_Things_namedOf 38 = .ok (.ifCond .eq 46, 3) := by decide +kernel
theorem d_Things_namedOf_41 : decode b_Things_namedOf 41 = .ok (.iload 8, 2) := by decide +kernel
theorem d_Things_namedOf_43 : decode b_Things_namedOf 43 = .ok (.aload_n 0, 1) := by decide +kernel
theorem d_Things_namedOf_44 : decode b_Things_namedOf 44 = .ok (.getfield 15, 3) := by decide +kernel
theorem d_Things_namedOf_47 : decode b_Things_namedOf 47 = .ok (.iload 6, 2) := by decide +kernel
theorem d_Things_namedOf_49 : decode b_Things_namedOf 49 = .ok (.iaload, 1) := by decide +kernel
theorem d_Things_namedOf_50 : decode b_Things_namedOf 50 = .ok (.if_icmp .ge 34, 3) := by decide +kernel
theorem d_Things_namedOf_53 : decode b_Things_namedOf 53 = .ok (.aload_n 0, 1) := by decide +kernel
theorem d_Things_namedOf_54 : decode b_Things_namedOf 54 = .ok (.getfield 18, 3) := by decide +kernel
theorem d_Things_namedOf_57 : decode b_Things_namedOf 57 = .ok (.iload 6, 2) := by decide +kernel
theorem d_Things_namedOf_59 : decode b_Things_namedOf 59 = .ok (.iconst 4, 1) := by decide +kernel
theorem d_Things_namedOf_60 : decode b_Things_namedOf 60 = .ok (.imul, 1) := by decide +kernel
theorem d_Things_namedOf_61 : decode b_Things_namedOf 61 = .ok (.iload 8, 2) := by decide +kernel
theorem d_Things_namedOf_63 : decode b_Things_namedOf 63 = .ok (.iadd, 1) := by decide +kernel
theorem d_Things_namedOf_64 : decode b_Things_namedOf 64 = .ok (.iaload, 1) := by decide +kernel
theorem d_Things_namedOf_65 : decode b_Things_namedOf 65 = .ok (.iload_n 3, 1) := by decide +kernel
theorem d_Things_namedOf_66 : decode b_Things_namedOf 66 = .ok (.if_icmp .ne 12, 3) := by decide +kernel
theorem d_Things_namedOf_69 : decode b_Things_namedOf 69 = .ok (.lload 4, 2) := by decide +kernel
theorem d_Things_namedOf_71 : decode b_Things_namedOf 71 = .ok (.lconst 1, 1) := by decide +kernel
theorem d_Things_namedOf_72 : decode b_Things_namedOf 72 = .ok (.iload 6, 2) := by decide +kernel
theorem d_Things_namedOf_74 : decode b_Things_namedOf 74 = .ok (.lshl, 1) := by decide +kernel
theorem d_Things_namedOf_75 : decode b_Things_namedOf 75 = .ok (.lor, 1) := by decide +kernel
theorem d_Things_namedOf_76 : decode b_Things_namedOf 76 = .ok (.lstore 4, 2) := by decide +kernel
theorem d_Things_namedOf_78 : decode b_Things_namedOf 78 = .ok (.iinc 8 1, 3) := by decide +kernel
theorem d_Things_namedOf_81 : decode b_Things_namedOf 81 = .ok (.goto (-45), 3) := by decide +kernel
theorem d_Things_namedOf_84 : decode b_Things_namedOf 84 = .ok (.iinc 6 1, 3) := by decide +kernel
theorem d_Things_namedOf_87 : decode b_Things_namedOf 87 = .ok (.goto (-81), 3) := by decide +kernel
theorem d_Things_namedOf_90 : decode b_Things_namedOf 90 = .ok (.lload 4, 2) := by decide +kernel
theorem d_Things_namedOf_92 : decode b_Things_namedOf 92 = .ok (.lreturn, 1) := by decide +kernel
theorem d_Phrase_find_0 : decode b_Phrase_find 0 = .ok (.aload_n 0, 1) := by decide +kernel
theorem d_Phrase_find_1 : decode b_Phrase_find 1 = .ok (.aload_n 0, 1) := by decide +kernel
theorem d_Phrase_find_2 : decode b_Phrase_find 2 = .ok (.getfield 7, 3) := by decide +kernel
theorem d_Phrase_find_5 : decode b_Phrase_find 5 = .ok (.getfield 13, 3) := by decide +kernel
theorem d_Phrase_find_8 : decode b_Phrase_find 8 = .ok (.putfield 19, 3) := by decide +kernel
theorem d_Phrase_find_11 : decode b_Phrase_find 11 = .ok (.aload_n 0, 1) := by decide +kernel
theorem d_Phrase_find_12 : decode b_Phrase_find 12 = .ok (.iload_n 2, 1) := by decide +kernel
theorem d_Phrase_find_13 : decode b_Phrase_find 13 = .ok (.putfield 22, 3) := by decide +kernel
theorem d_Phrase_find_16 : decode b_Phrase_find 16 = .ok (.iload_n 2, 1) := by decide +kernel
theorem d_Phrase_find_17 : decode b_Phrase_find 17 = .ok (.istore_n 3, 1) := by decide +kernel
theorem d_Phrase_find_18 : decode b_Phrase_find 18 = .ok (.iload_n 3, 1) := by decide +kernel
theorem d_Phrase_find_19 : decode b_Phrase_find 19 = .ok (.aload_n 1, 1) := by decide +kernel
theorem d_Phrase_find_20 : decode b_Phrase_find 20 = .ok (.invokevirtual 26, 3) := by decide +kernel
theorem d_Phrase_find_23 : decode b_Phrase_find 23 = .ok (.if_icmp .ge 50, 3) := by decide +kernel
theorem d_Phrase_find_26 : decode b_Phrase_find 26 = .ok (.aload_n 0, 1) := by decide +kernel
theorem d_Phrase_find_27 : decode b_Phrase_find 27 = .ok (.getfield 7, 3) := by decide +kernel
theorem d_Phrase_find_30 : decode b_Phrase_find 30 = .ok (.aload_n 0, 1) := by decide +kernel
theorem d_Phrase_find_31 : decode b_Phrase_find 31 = .ok (.getfield 19, 3) := by decide +kernel
theorem d_Phrase_find_34 : decode b_Phrase_find 34 = .ok (.aload_n 1, 1) := by decide +kernel
theorem d_Phrase_find_35 : decode b_Phrase_find 35 = .ok (.iload_n 3, 1) := by decide +kernel
theorem d_Phrase_find_36 : decode b_Phrase_find 36 = .ok (.invokevirtual 32, 3) := by decide +kernel
theorem d_Phrase_find_39 : decode b_Phrase_find 39 = .ok (.invokevirtual 36, 3) := by decide +kernel
theorem d_Phrase_find_42 : decode b_Phrase_find 42 = .ok (.lstore 4, 2) := by decide +kernel
theorem d_Phrase_find_44 : decode b_Phrase_find 44 = .ok (.lload 4, 2) := by decide +kernel
theorem d_Phrase_find_46 : decode b_Phrase_find 46 = .ok (.lconst 0, 1) := by decide +kernel
theorem d_Phrase_find_47 : decode b_Phrase_find 47 = .ok (.lcmp, 1) := by decide +kernel
theorem d_Phrase_find_48 : decode b_Phrase_find 48 = .ok (.ifCond .ne 6, 3) := by decide +kernel
theorem d_Phrase_find_51 : decode b_Phrase_find 51 = .ok (.goto 22, 3) := by decide +kernel
theorem d_Phrase_find_54 : decode b_Phrase_find 54 = .ok (.aload_n 0, 1) := by decide +kernel
theorem d_Phrase_find_55 : decode b_Phrase_find 55 = .ok (.lload 4, 2) := by decide +kernel
theorem d_Phrase_find_57 : decode b_Phrase_find 57 = .ok (.putfield 19, 3) := by decide +kernel
theorem d_Phrase_find_60 : decode b_Phrase_find 60 = .ok (.aload_n 0, 1) := by decide +kernel
theorem d_Phrase_find_61 : decode b_Phrase_find 61 = .ok (.iload_n 3, 1) := by decide +kernel
theorem d_Phrase_find_62 : decode b_Phrase_find 62 = .ok (.iconst 1, 1) := by decide +kernel
theorem d_Phrase_find_63 : decode b_Phrase_find 63 = .ok (.iadd, 1) := by decide +kernel
theorem d_Phrase_find_64 : decode b_Phrase_find 64 = .ok (.putfield 22, 3) := by decide +kernel
theorem d_Phrase_find_67 : decode b_Phrase_find 67 = .ok (.iinc 3 1, 3) := by decide +kernel
theorem d_Phrase_find_70 : decode b_Phrase_find 70 = .ok (.goto (-52), 3) := by decide +kernel
theorem d_Phrase_find_73 : decode b_Phrase_find 73 = .ok (.aload_n 0, 1) := by decide +kernel
theorem d_Phrase_find_74 : decode b_Phrase_find 74 = .ok (.getfield 22, 3) := by decide +kernel
theorem d_Phrase_find_77 : decode b_Phrase_find 77 = .ok (.iload_n 2, 1) := by decide +kernel
theorem d_Phrase_find_78 : decode b_Phrase_find 78 = .ok (.if_icmp .le 7, 3) := by decide +kernel
theorem d_Phrase_find_81 : decode b_Phrase_find 81 = .ok (.iconst 1, 1) := by decide +kernel
theorem d_Phrase_find_82 : decode b_Phrase_find 82 = .ok (.goto 4, 3) := by decide +kernel
theorem d_Phrase_find_85 : decode b_Phrase_find 85 = .ok (.iconst 0, 1) := by decide +kernel
theorem d_Phrase_find_86 : decode b_Phrase_find 86 = .ok (.ireturn, 1) := by decide +kernel
theorem d_JLong_bitCount_0 : decode b_JLong_bitCount 0 = .ok (.lload_n 0, 1) := by decide +kernel
theorem d_JLong_bitCount_1 : decode b_JLong_bitCount 1 = .ok (.lload_n 0, 1) := by decide +kernel
theorem d_JLong_bitCount_2 : decode b_JLong_bitCount 2 = .ok (.iconst 1, 1) := by decide +kernel
theorem d_JLong_bitCount_3 : decode b_JLong_bitCount 3 = .ok (.lushr, 1) := by decide +kernel
theorem d_JLong_bitCount_4 : decode b_JLong_bitCount 4 = .ok (.ldc2_w 314, 3) := by decide +kernel
theorem d_JLong_bitCount_7 : decode b_JLong_bitCount 7 = .ok (.land, 1) := by decide +kernel
theorem d_JLong_bitCount_8 : decode b_JLong_bitCount 8 = .ok (.lsub, 1) := by decide +kernel
theorem d_JLong_bitCount_9 : decode b_JLong_bitCount 9 = .ok (.lstore_n 0, 1) := by decide +kernel
theorem d_JLong_bitCount_10 : decode b_JLong_bitCount 10 = .ok (.lload_n 0, 1) := by decide +kernel
theorem d_JLong_bitCount_11 : decode b_JLong_bitCount 11 = .ok (.ldc2_w 316, 3) := by decide +kernel
theorem d_JLong_bitCount_14 : decode b_JLong_bitCount 14 = .ok (.land, 1) := by decide +kernel
theorem d_JLong_bitCount_15 : decode b_JLong_bitCount 15 = .ok (.lload_n 0, 1) := by decide +kernel
theorem d_JLong_bitCount_16 : decode b_JLong_bitCount 16 = .ok (.iconst 2, 1) := by decide +kernel
theorem d_JLong_bitCount_17 : decode b_JLong_bitCount 17 = .ok (.lushr, 1) := by decide +kernel
theorem d_JLong_bitCount_18 : decode b_JLong_bitCount 18 = .ok (.ldc2_w 316, 3) := by decide +kernel
theorem d_JLong_bitCount_21 : decode b_JLong_bitCount 21 = .ok (.land, 1) := by decide +kernel
theorem d_JLong_bitCount_22 : decode b_JLong_bitCount 22 = .ok (.ladd, 1) := by decide +kernel
theorem d_JLong_bitCount_23 : decode b_JLong_bitCount 23 = .ok (.lstore_n 0, 1) := by decide +kernel
theorem d_JLong_bitCount_24 : decode b_JLong_bitCount 24 = .ok (.lload_n 0, 1) := by decide +kernel
theorem d_JLong_bitCount_25 : decode b_JLong_bitCount 25 = .ok (.lload_n 0, 1) := by decide +kernel
theorem d_JLong_bitCount_26 : decode b_JLong_bitCount 26 = .ok (.iconst 4, 1) := by decide +kernel
theorem d_JLong_bitCount_27 : decode b_JLong_bitCount 27 = .ok (.lushr, 1) := by decide +kernel
theorem d_JLong_bitCount_28 : decode b_JLong_bitCount 28 = .ok (.ladd, 1) := by decide +kernel
theorem d_JLong_bitCount_29 : decode b_JLong_bitCount 29 = .ok (.ldc2_w 318, 3) := by decide +kernel
theorem d_JLong_bitCount_32 : decode b_JLong_bitCount 32 = .ok (.land, 1) := by decide +kernel
theorem d_JLong_bitCount_33 : decode b_JLong_bitCount 33 = .ok (.lstore_n 0, 1) := by decide +kernel
theorem d_JLong_bitCount_34 : decode b_JLong_bitCount 34 = .ok (.lload_n 0, 1) := by decide +kernel
theorem d_JLong_bitCount_35 : decode b_JLong_bitCount 35 = .ok (.lload_n 0, 1) := by decide +kernel
theorem d_JLong_bitCount_36 : decode b_JLong_bitCount 36 = .ok (.bipush 8, 2) := by decide +kernel
theorem d_JLong_bitCount_38 : decode b_JLong_bitCount 38 = .ok (.lushr, 1) := by decide +kernel
theorem d_JLong_bitCount_39 : decode b_JLong_bitCount 39 = .ok (.ladd, 1) := by decide +kernel
theorem d_JLong_bitCount_40 : decode b_JLong_bitCount 40 = .ok (.lstore_n 0, 1) := by decide +kernel
theorem d_JLong_bitCount_41 : decode b_JLong_bitCount 41 = .ok (.lload_n 0, 1) := by decide +kernel
theorem d_JLong_bitCount_42 : decode b_JLong_bitCount 42 = .ok (.lload_n 0, 1) := by decide +kernel
theorem d_JLong_bitCount_43 : decode b_JLong_bitCount 43 = .ok (.bipush 16, 2) := by decide +kernel
theorem d_JLong_bitCount_45 : decode b_JLong_bitCount 45 = .ok (.lushr, 1) := by decide +kernel
theorem d_JLong_bitCount_46 : decode b_JLong_bitCount 46 = .ok (.ladd, 1) := by decide +kernel
theorem d_JLong_bitCount_47 : decode b_JLong_bitCount 47 = .ok (.lstore_n 0, 1) := by decide +kernel
theorem d_JLong_bitCount_48 : decode b_JLong_bitCount 48 = .ok (.lload_n 0, 1) := by decide +kernel
theorem d_JLong_bitCount_49 : decode b_JLong_bitCount 49 = .ok (.lload_n 0, 1) := by decide +kernel
theorem d_JLong_bitCount_50 : decode b_JLong_bitCount 50 = .ok (.bipush 32, 2) := by decide +kernel
theorem d_JLong_bitCount_52 : decode b_JLong_bitCount 52 = .ok (.lushr, 1) := by decide +kernel
theorem d_JLong_bitCount_53 : decode b_JLong_bitCount 53 = .ok (.ladd, 1) := by decide +kernel
theorem d_JLong_bitCount_54 : decode b_JLong_bitCount 54 = .ok (.lstore_n 0, 1) := by decide +kernel
theorem d_JLong_bitCount_55 : decode b_JLong_bitCount 55 = .ok (.lload_n 0, 1) := by decide +kernel
theorem d_JLong_bitCount_56 : decode b_JLong_bitCount 56 = .ok (.l2i, 1) := by decide +kernel
theorem d_JLong_bitCount_57 : decode b_JLong_bitCount 57 = .ok (.bipush 127, 2) := by decide +kernel
theorem d_JLong_bitCount_59 : decode b_JLong_bitCount 59 = .ok (.iand, 1) := by decide +kernel
theorem d_JLong_bitCount_60 : decode b_JLong_bitCount 60 = .ok (.ireturn, 1) := by decide +kernel
theorem d_Row_dropFirst_0 : decode b_Row_dropFirst 0 = .ok (.iconst 0, 1) := by decide +kernel
theorem d_Row_dropFirst_1 : decode b_Row_dropFirst 1 = .ok (.iload_n 1, 1) := by decide +kernel
theorem d_Row_dropFirst_2 : decode b_Row_dropFirst 2 = .ok (.aload_n 0, 1) := by decide +kernel
theorem d_Row_dropFirst_3 : decode b_Row_dropFirst 3 = .ok (.getfield 21, 3) := by decide +kernel
theorem d_Row_dropFirst_6 : decode b_Row_dropFirst 6 = .ok (.invokestatic 25, 3) := by decide +kernel
theorem d_Row_dropFirst_9 : decode b_Row_dropFirst 9 = .ok (.invokestatic 9, 3) := by decide +kernel
theorem d_Row_dropFirst_12 : decode b_Row_dropFirst 12 = .ok (.istore_n 2, 1) := by decide +kernel
theorem d_Row_dropFirst_13 : decode b_Row_dropFirst 13 = .ok (.iload_n 2, 1) := by decide +kernel
theorem d_Row_dropFirst_14 : decode b_Row_dropFirst 14 = .ok (.istore_n 3, 1) := by decide +kernel
theorem d_Row_dropFirst_15 : decode b_Row_dropFirst 15 = .ok (.iload_n 3, 1) := by decide +kernel
theorem d_Row_dropFirst_16 : decode b_Row_dropFirst 16 = .ok (.aload_n 0, 1) := by decide +kernel
theorem d_Row_dropFirst_17 : decode b_Row_dropFirst 17 = .ok (.getfield 21, 3) := by decide +kernel
theorem d_Row_dropFirst_20 : decode b_Row_dropFirst 20 = .ok (.if_icmp .ge 23, 3) := by decide +kernel
theorem d_Row_dropFirst_23 : decode b_Row_dropFirst 23 = .ok (.aload_n 0, 1) := by decide +kernel
theorem d_Row_dropFirst_24 : decode b_Row_dropFirst 24 = .ok (.getfield 15, 3) := by decide +kernel
theorem d_Row_dropFirst_27 : decode b_Row_dropFirst 27 = .ok (.iload_n 3, 1) := by decide +kernel
theorem d_Row_dropFirst_28 : decode b_Row_dropFirst 28 = .ok (.iload_n 2, 1) := by decide +kernel
theorem d_Row_dropFirst_29 : decode b_Row_dropFirst 29 = .ok (.isub, 1) := by decide +kernel
theorem d_Row_dropFirst_30 : decode b_Row_dropFirst 30 = .ok (.aload_n 0, 1) := by decide +kernel
theorem d_Row_dropFirst_31 : decode b_Row_dropFirst 31 = .ok (.getfield 15, 3) := by decide +kernel
theorem d_Row_dropFirst_34 : decode b_Row_dropFirst 34 = .ok (.iload_n 3, 1) := by decide +kernel
theorem d_Row_dropFirst_35 : decode b_Row_dropFirst 35 = .ok (.iaload, 1) := by decide +kernel
theorem d_Row_dropFirst_36 : decode b_Row_dropFirst 36 = .ok (.iastore, 1) := by decide +kernel
theorem d_Row_dropFirst_37 : decode b_Row_dropFirst 37 = .ok (.iinc 3 1, 3) := by decide +kernel
theorem d_Row_dropFirst_40 : decode b_Row_dropFirst 40 = .ok (.goto (-25), 3) := by decide +kernel
theorem d_Row_dropFirst_43 : decode b_Row_dropFirst 43 = .ok (.aload_n 0, 1) := by decide +kernel
theorem d_Row_dropFirst_44 : decode b_Row_dropFirst 44 = .ok (.dup, 1) := by decide +kernel
theorem d_Row_dropFirst_45 : decode b_Row_dropFirst 45 = .ok (.getfield 21, 3) := by decide +kernel
theorem d_Row_dropFirst_48 : decode b_Row_dropFirst 48 = .ok (.iload_n 2, 1) := by decide +kernel
theorem d_Row_dropFirst_49 : decode b_Row_dropFirst 49 = .ok (.isub, 1) := by decide +kernel
theorem d_Row_dropFirst_50 : decode b_Row_dropFirst 50 = .ok (.putfield 21, 3) := by decide +kernel
theorem d_Row_dropFirst_53 : decode b_Row_dropFirst 53 = .ok (.return_, 1) := by decide +kernel
theorem d_Things_firstOf_0 : decode b_Things_firstOf 0 = .ok (.iconst 0, 1) := by decide +kernel
theorem d_Things_firstOf_1 : decode b_Things_firstOf 1 = .ok (.istore_n 3, 1) := by decide +kernel
theorem d_Things_firstOf_2 : decode b_Things_firstOf 2 = .ok (.iload_n 3, 1) := by decide +kernel
theorem d_Things_firstOf_3 : decode b_Things_firstOf 3 = .ok (.aload_n 0, 1) := by decide +kernel
theorem d_Things_firstOf_4 : decode b_Things_firstOf 4 = .ok (.getfield 21, 3) := by decide +kernel
theorem d_Things_firstOf_7 : decode b_Things_firstOf 7 = .ok (.if_icmp .ge 21, 3) := by decide +kernel
theorem d_Things_firstOf_10 : decode b_Things_firstOf 10 = .ok (.lload_n 1, 1) := by decide +kernel
theorem d_Things_firstOf_11 : decode b_Things_firstOf 11 = .ok (.iload_n 3, 1) := by decide +kernel
theorem d_Things_firstOf_12 : decode b_Things_firstOf 12 = .ok (.lshr, 1) := by decide +kernel
theorem d_Things_firstOf_13 : decode b_Things_firstOf 13 = .ok (.lconst 1, 1) := by decide +kernel
theorem d_Things_firstOf_14 : decode b_Things_firstOf 14 = .ok (.land, 1) := by decide +kernel
theorem d_Things_firstOf_15 : decode b_Things_firstOf 15 = .ok (.lconst 0, 1) := by decide +kernel
theorem d_Things_firstOf_16 : decode b_Things_firstOf 16 = .ok (.lcmp, 1) := by decide +kernel
theorem d_Things_firstOf_17 : decode b_Things_firstOf 17 = .ok (.ifCond .eq 5, 3) := by decide +kernel
theorem d_Things_firstOf_20 : decode b_Things_firstOf 20 = .ok (.iload_n 3, 1) := by decide +kernel
theorem d_Things_firstOf_21 : decode b_Things_firstOf 21 = .ok (.ireturn, 1) := by decide +kernel
theorem d_Things_firstOf_22 : decode b_Things_firstOf 22 = .ok (.iinc 3 1, 3) := by decide +kernel
theorem d_Things_firstOf_25 : decode b_Things_firstOf 25 = .ok (.goto (-23), 3) := by decide +kernel
theorem d_Things_firstOf_28 : decode b_Things_firstOf 28 = .ok (.iconst (-1), 1) := by decide +kernel
theorem d_Things_firstOf_29 : decode b_Things_firstOf 29 = .ok (.ireturn, 1) := by decide +kernel
theorem d_G_takeOrder_0 : decode b_G_takeOrder 0 = .ok (.aload_n 0, 1) := by decide +kernel
theorem d_G_takeOrder_1 : decode b_G_takeOrder 1 = .ok (.getfield 60, 3) := by decide +kernel
theorem d_G_takeOrder_4 : decode b_G_takeOrder 4 = .ok (.aload_n 0, 1) := by decide +kernel
theorem d_G_takeOrder_5 : decode b_G_takeOrder 5 = .ok (.getfield 42, 3) := by decide +kernel
theorem d_G_takeOrder_8 : decode b_G_takeOrder 8 = .ok (.iconst 0, 1) := by decide +kernel
theorem d_G_takeOrder_9 : decode b_G_takeOrder 9 = .ok (.invokevirtual 255, 3) := by decide +kernel
theorem d_G_takeOrder_12 : decode b_G_takeOrder 12 = .ok (.ifCond .eq 17, 3) := by decide +kernel
theorem d_G_takeOrder_15 : decode b_G_takeOrder 15 = .ok (.aload_n 0, 1) := by decide +kernel
theorem d_G_takeOrder_16 : decode b_G_takeOrder 16 = .ok (.getfield 60, 3) := by decide +kernel
theorem d_G_takeOrder_19 : decode b_G_takeOrder 19 = .ok (.getfield 258, 3) := by decide +kernel
theorem d_G_takeOrder_22 : decode b_G_takeOrder 22 = .ok (.invokestatic 262, 3) := by decide +kernel
theorem d_G_takeOrder_25 : decode b_G_takeOrder 25 = .ok (.iconst 1, 1) := by decide +kernel
theorem d_G_takeOrder_26 : decode b_G_takeOrder 26 = .ok (.if_icmp .eq 5, 3) := by decide +kernel
theorem d_G_takeOrder_29 : decode b_G_takeOrder 29 = .ok (.iconst (-1), 1) := by decide +kernel
theorem d_G_takeOrder_30 : decode b_G_takeOrder 30 = .ok (.ireturn, 1) := by decide +kernel
theorem d_G_takeOrder_31 : decode b_G_takeOrder 31 = .ok (.aload_n 0, 1) := by decide +kernel
theorem d_G_takeOrder_32 : decode b_G_takeOrder 32 = .ok (.getfield 60, 3) := by decide +kernel
theorem d_G_takeOrder_35 : decode b_G_takeOrder 35 = .ok (.getfield 258, 3) := by decide +kernel
theorem d_G_takeOrder_38 : decode b_G_takeOrder 38 = .ok (.aload_n 0, 1) := by decide +kernel
theorem d_G_takeOrder_39 : decode b_G_takeOrder 39 = .ok (.getfield 10, 3) := by decide +kernel
theorem d_G_takeOrder_42 : decode b_G_takeOrder 42 = .ok (.getfield 268, 3) := by decide +kernel
theorem d_G_takeOrder_45 : decode b_G_takeOrder 45 = .ok (.land, 1) := by decide +kernel
theorem d_G_takeOrder_46 : decode b_G_takeOrder 46 = .ok (.lconst 0, 1) := by decide +kernel
theorem d_G_takeOrder_47 : decode b_G_takeOrder 47 = .ok (.lcmp, 1) := by decide +kernel
theorem d_G_takeOrder_48 : decode b_G_takeOrder 48 = .ok (.ifCond .eq 7, 3) := by decide +kernel
theorem d_G_takeOrder_51 : decode b_G_takeOrder 51 = .ok (.iconst 1, 1) := by decide +kernel
theorem d_G_takeOrder_52 : decode b_G_takeOrder 52 = .ok (.goto 4, 3) := by decide +kernel
theorem d_G_takeOrder_55 : decode b_G_takeOrder 55 = .ok (.iconst 0, 1) := by decide +kernel
theorem d_G_takeOrder_56 : decode b_G_takeOrder 56 = .ok (.istore_n 1, 1) := by decide +kernel
theorem d_G_takeOrder_57 : decode b_G_takeOrder 57 = .ok (.aload_n 0, 1) := by decide +kernel
theorem d_G_takeOrder_58 : decode b_G_takeOrder 58 = .ok (.getfield 60, 3) := by decide +kernel
theorem d_G_takeOrder_61 : decode b_G_takeOrder 61 = .ok (.getfield 271, 3) := by decide +kernel
theorem d_G_takeOrder_64 : decode b_G_takeOrder 64 = .ok (.istore_n 2, 1) := by decide +kernel
theorem d_G_takeOrder_65 : decode b_G_takeOrder 65 = .ok (.iload_n 1, 1) := by decide +kernel
theorem d_G_takeOrder_66 : decode b_G_takeOrder 66 = .ok (.ifCond .eq 29, 3) := by decide +kernel
theorem d_G_takeOrder_69 : decode b_G_takeOrder 69 = .ok (.aload_n 0, 1) := by decide +kernel
theorem d_G_takeOrder_70 : decode b_G_takeOrder 70 = .ok (.getfield 42, 3) := by decide +kernel
theorem d_G_takeOrder_73 : decode b_G_takeOrder 73 = .ok (.iload_n 2, 1) := by decide +kernel
theorem d_G_takeOrder_74 : decode b_G_takeOrder 74 = .ok (.invokevirtual 207, 3) := by decide +kernel
theorem d_G_takeOrder_77 : decode b_G_takeOrder 77 = .ok (.bipush 7, 2) := by decide +kernel
theorem d_G_takeOrder_79 : decode b_G_takeOrder 79 = .ok (.if_icmp .ne 16, 3) := by decide +kernel
theorem d_G_takeOrder_82 : decode b_G_takeOrder 82 = .ok (.aload_n 0, 1) := by decide +kernel
theorem d_G_takeOrder_83 : decode b_G_takeOrder 83 = .ok (.getfield 42, 3) := by decide +kernel
theorem d_G_takeOrder_86 : decode b_G_takeOrder 86 = .ok (.invokevirtual 162, 3) := by decide +kernel
theorem d_G_takeOrder_89 : decode b_G_takeOrder 89 = .ok (.iload_n 2, 1) := by decide +kernel
theorem d_G_takeOrder_90 : decode b_G_takeOrder 90 = .ok (.iconst 1, 1) := by decide +kernel
theorem d_G_takeOrder_91 : decode b_G_takeOrder 91 = .ok (.iadd, 1) := by decide +kernel
theorem d_G_takeOrder_92 : decode b_G_takeOrder 92 = .ok (.if_icmp .gt 5, 3) := by decide +kernel
theorem d_G_takeOrder_95 : decode b_G_takeOrder 95 = .ok (.iconst (-1), 1) := by decide +kernel
theorem d_G_takeOrder_96 : decode b_G_takeOrder 96 = .ok (.ireturn, 1) := by decide +kernel
theorem d_G_takeOrder_97 : decode b_G_takeOrder 97 = .ok (.aload_n 0, 1) := by decide +kernel
theorem d_G_takeOrder_98 : decode b_G_takeOrder 98 = .ok (.getfield 42, 3) := by decide +kernel
theorem d_G_takeOrder_101 : decode b_G_takeOrder 101 = .ok (.iload_n 2, 1) := by decide +kernel
theorem d_G_takeOrder_102 : decode b_G_takeOrder 102 = .ok (.iconst 1, 1) := by decide +kernel
theorem d_G_takeOrder_103 : decode b_G_takeOrder 103 = .ok (.iadd, 1) := by decide +kernel
theorem d_G_takeOrder_104 : decode b_G_takeOrder 104 = .ok (.invokevirtual 274, 3) := by decide +kernel
theorem d_G_takeOrder_107 : decode b_G_takeOrder 107 = .ok (.aload_n 0, 1) := by decide +kernel
theorem d_G_takeOrder_108 : decode b_G_takeOrder 108 = .ok (.getfield 10, 3) := by decide +kernel
theorem d_G_takeOrder_111 : decode b_G_takeOrder 111 = .ok (.aload_n 0, 1) := by decide +kernel
theorem d_G_takeOrder_112 : decode b_G_takeOrder 112 = .ok (.getfield 60, 3) := by decide +kernel
theorem d_G_takeOrder_115 : decode b_G_takeOrder 115 = .ok (.getfield 258, 3) := by decide +kernel
theorem d_G_takeOrder_118 : decode b_G_takeOrder 118 = .ok (.invokevirtual 277, 3) := by decide +kernel
theorem d_G_takeOrder_121 : decode b_G_takeOrder 121 = .ok (.ireturn, 1) := by decide +kernel
theorem d_G_isJoin_0 : decode b_G_isJoin 0 = .ok (.iload_n 0, 1) := by decide +kernel
theorem d_G_isJoin_1 : decode b_G_isJoin 1 = .ok (.iconst 1, 1) := by decide +kernel
theorem d_G_isJoin_2 : decode b_G_isJoin 2 = .ok (.if_icmp .eq 9, 3) := by decide +kernel
theorem d_G_isJoin_5 : decode b_G_isJoin 5 = .ok (.iload_n 0, 1) := by decide +kernel
theorem d_G_isJoin_6 : decode b_G_isJoin 6 = .ok (.bipush 7, 2) := by decide +kernel
theorem d_G_isJoin_8 : decode b_G_isJoin 8 = .ok (.if_icmp .ne 7, 3) := by decide +kernel
theorem d_G_isJoin_11 : decode b_G_isJoin 11 = .ok (.iconst 1, 1) := by decide +kernel
theorem d_G_isJoin_12 : decode b_G_isJoin 12 = .ok (.goto 4, 3) := by decide +kernel
theorem d_G_isJoin_15 : decode b_G_isJoin 15 = .ok (.iconst 0, 1) := by decide +kernel
theorem d_G_isJoin_16 : decode b_G_isJoin 16 = .ok (.ireturn, 1) := by decide +kernel
theorem d_G_endsCommand_0 : decode b_G_endsCommand 0 = .ok (.aload_n 0, 1) := by decide +kernel
theorem d_G_endsCommand_1 : decode b_G_endsCommand 1 = .ok (.getfield 42, 3) := by decide +kernel
theorem d_G_endsCommand_4 : decode b_G_endsCommand 4 = .ok (.iload_n 1, 1) := by decide +kernel
theorem d_G_endsCommand_5 : decode b_G_endsCommand 5 = .ok (.invokevirtual 207, 3) := by decide +kernel
theorem d_G_endsCommand_8 : decode b_G_endsCommand 8 = .ok (.istore_n 2, 1) := by decide +kernel
theorem d_G_endsCommand_9 : decode b_G_endsCommand 9 = .ok (.iload_n 2, 1) := by decide +kernel
theorem d_G_endsCommand_10 : decode b_G_endsCommand 10 = .ok (.iconst 2, 1) := by decide +kernel
theorem d_G_endsCommand_11 : decode b_G_endsCommand 11 = .ok (.if_icmp .eq 31, 3) := by decide +kernel
theorem d_G_endsCommand_14 : decode b_G_endsCommand 14 = .ok (.iload_n 2, 1) := by decide +kernel
theorem d_G_endsCommand_15 : decode b_G_endsCommand 15 = .ok (.invokestatic 283, 3) := by decide +kernel
theorem d_G_endsCommand_18 : decode b_G_endsCommand 18 = .ok (.ifCond .eq 28, 3) := by decide +kernel
theorem d_G_endsCommand_21 : decode b_G_endsCommand 21 = .ok (.aload_n 0, 1) := by decide +kernel
theorem d_G_endsCommand_22 : decode b_G_endsCommand 22 = .ok (.getfield 19, 3) := by decide +kernel
theorem d_G_endsCommand_25 : decode b_G_endsCommand 25 = .ok (.aload_n 0, 1) := by decide +kernel
theorem d_G_endsCommand_26 : decode b_G_endsCommand 26 = .ok (.getfield 42, 3) := by decide +kernel
theorem d_G_endsCommand_29 : decode b_G_endsCommand 29 = .ok (.iload_n 1, 1) := by decide +kernel
theorem d_G_endsCommand_30 : decode b_G_endsCommand 30 = .ok (.iconst 1, 1) := by decide +kernel
theorem d_G_endsCommand_31 : decode b_G_endsCommand 31 = .ok (.iadd, 1) := by decide +kernel
theorem d_G_endsCommand_32 : decode b_G_endsCommand 32 = .ok (.invokevirtual 207, 3) := by decide +kernel
theorem d_G_endsCommand_35 : decode b_G_endsCommand 35 = .ok (.invokevirtual 192, 3) := by decide +kernel
theorem d_G_endsCommand_38 : decode b_G_endsCommand 38 = .ok (.iconst (-1), 1) := by decide +kernel
theorem d_G_endsCommand_39 : decode b_G_endsCommand 39 = .ok (.if_icmp .eq 7, 3) := by decide +kernel
theorem d_G_endsCommand_42 : decode b_G_endsCommand 42 = .ok (.iconst 1, 1) := by decide +kernel
theorem d_G_endsCommand_43 : decode b_G_endsCommand 43 = .ok (.goto 4, 3) := by decide +kernel
theorem d_G_endsCommand_46 : decode b_G_endsCommand 46 = .ok (.iconst 0, 1) := by decide +kernel
theorem d_G_endsCommand_47 : decode b_G_endsCommand 47 = .ok (.ireturn, 1) := by decide +kernel
theorem d_G_takeCommand_0 : decode b_G_takeCommand 0 = .ok (.aload_n 0, 1) := by decide +kernel
theorem d_G_takeCommand_1 : decode b_G_takeCommand 1 = .ok (.getfield 49, 3) := by decide +kernel
theorem d_G_takeCommand_4 : decode b_G_takeCommand 4 = .ok (.invokevirtual 167, 3) := by decide +kernel
theorem d_G_takeCommand_7 : decode b_G_takeCommand 7 = .ok (.iconst 0, 1) := by decide +kernel
theorem d_G_takeCommand_8 : decode b_G_takeCommand 8 = .ok (.istore_n 1, 1) := by decide +kernel
theorem d_G_takeCommand_9 : decode b_G_takeCommand 9 = .ok (.iload_n 1, 1) := by decide +kernel
theorem d_G_takeCommand_10 : decode b_G_takeCommand 10 = .ok (.aload_n 0, 1) := by decide +kernel
theorem d_G_takeCommand_11 : decode b_G_takeCommand 11 = .ok (.getfield 42, 3) := by decide +kernel
theorem d_G_takeCommand_14 : decode b_G_takeCommand 14 = .ok (.invokevirtual 162, 3) := by decide +kernel
theorem d_G_takeCommand_17 : decode b_G_takeCommand 17 = .ok (.if_icmp .ge 32, 3) := by decide +kernel
theorem d_G_takeCommand_20 : decode b_G_takeCommand 20 = .ok (.aload_n 0, 1) := by decide +kernel
theorem d_G_takeCommand_21 : decode b_G_takeCommand 21 = .ok (.iload_n 1, 1) := by decide +kernel
theorem d_G_takeCommand_22 : decode b_G_takeCommand 22 = .ok (.invokevirtual 280, 3) := by decide +kernel
theorem d_G_takeCommand_25 : decode b_G_takeCommand 25 = .ok (.ifCond .ne 24, 3) := by decide +kernel
theorem d_G_takeCommand_28 : decode b_G_takeCommand 28 = .ok (.aload_n 0, 1) := by decide +kernel
theorem d_G_takeCommand_29 : decode b_G_takeCommand 29 = .ok (.getfield 49, 3) := by decide +kernel
theorem d_G_takeCommand_32 : decode b_G_takeCommand 32 = .ok (.aload_n 0, 1) := by decide +kernel
theorem d_G_takeCommand_33 : decode b_G_takeCommand 33 = .ok (.getfield 42, 3) := by decide +kernel
theorem d_G_takeCommand_36 : decode b_G_takeCommand 36 = .ok (.iload_n 1, 1) := by decide +kernel
theorem d_G_takeCommand_37 : decode b_G_takeCommand 37 = .ok (.invokevirtual 207, 3) := by decide +kernel
theorem d_G_takeCommand_40 : decode b_G_takeCommand 40 = .ok (.invokevirtual 165, 3) := by decide +kernel
theorem d_G_takeCommand_43 : decode b_G_takeCommand 43 = .ok (.iinc 1 1, 3) := by decide +kernel
theorem d_G_takeCommand_46 : decode b_G_takeCommand 46 = .ok (.goto (-37), 3) := by decide +kernel
theorem d_G_takeCommand_49 : decode b_G_takeCommand 49 = .ok (.aload_n 0, 1) := by decide +kernel
theorem d_G_takeCommand_50 : decode b_G_takeCommand 50 = .ok (.getfield 42, 3) := by decide +kernel
theorem d_G_takeCommand_53 : decode b_G_takeCommand 53 = .ok (.iload_n 1, 1) := by decide +kernel
theorem d_G_takeCommand_54 : decode b_G_takeCommand 54 = .ok (.iconst 1, 1) := by decide +kernel
theorem d_G_takeCommand_55 : decode b_G_takeCommand 55 = .ok (.iadd, 1) := by decide +kernel
theorem d_G_takeCommand_56 : decode b_G_takeCommand 56 = .ok (.invokevirtual 274, 3) := by decide +kernel
theorem d_G_takeCommand_59 : decode b_G_takeCommand 59 = .ok (.return_, 1) := by decide +kernel
theorem d_Row_become_0 : decode b_Row_become 0 = .ok (.aload_n 0, 1) := by decide +kernel
theorem d_Row_become_1 : decode b_Row_become 1 = .ok (.invokevirtual 28, 3) := by decide +kernel
theorem d_Row_become_4 : decode b_Row_become 4 = .ok (.iconst 0, 1) := by decide +kernel
theorem d_Row_become_5 : decode b_Row_become 5 = .ok (.istore_n 2, 1) := by decide +kernel
theorem d_Row_become_6 : decode b_Row_become 6 = .ok (.iload_n 2, 1) := by decide +kernel
theorem d_Row_become_7 : decode b_Row_become 7 = .ok (.aload_n 1, 1) := by decide +kernel
theorem d_Row_become_8 : decode b_Row_become 8 = .ok (.getfield 21, 3) := by decide +kernel
theorem d_Row_become_11 : decode b_Row_become 11 = .ok (.if_icmp .ge 19, 3) := by decide +kernel
theorem d_Row_become_14 : decode b_Row_become 14 = .ok (.aload_n 0, 1) := by decide +kernel
theorem d_Row_become_15 : decode b_Row_become 15 = .ok (.aload_n 1, 1) := by decide +kernel
theorem d_Row_become_16 : decode b_Row_become 16 = .ok (.getfield 15, 3) := by decide +kernel
theorem d_Row_become_19 : decode b_Row_become 19 = .ok (.iload_n 2, 1) := by decide +kernel
theorem d_Row_become_20 : decode b_Row_become 20 = .ok (.iaload, 1) := by decide +kernel
theorem d_Row_become_21 : decode b_Row_become 21 = .ok (.invokevirtual 31, 3) := by decide +kernel
theorem d_Row_become_24 : decode b_Row_become 24 = .ok (.iinc 2 1, 3) := by decide +kernel
theorem d_Row_become_27 : decode b_Row_become 27 = .ok (.goto (-21), 3) := by decide +kernel
theorem d_Row_become_30 : decode b_Row_become 30 = .ok (.return_, 1) := by decide +kernel
theorem d_G_chooseCommand_0 : decode b_G_chooseCommand 0 = .ok (.aload_n 0, 1) := by decide +kernel
theorem d_G_chooseCommand_1 : decode b_G_chooseCommand 1 = .ok (.getfield 49, 3) := by decide +kernel
theorem d_G_chooseCommand_4 : decode b_G_chooseCommand 4 = .ok (.invokevirtual 162, 3) := by decide +kernel
theorem d_G_chooseCommand_7 : decode b_G_chooseCommand 7 = .ok (.iconst 1, 1) := by decide +kernel
theorem d_G_chooseCommand_8 : decode b_G_chooseCommand 8 = .ok (.if_icmp .ne 19, 3) := by decide +kernel
theorem d_G_chooseCommand_11 : decode b_G_chooseCommand 11 = .ok (.aload_n 0, 1) := by decide +kernel
theorem d_G_chooseCommand_12 : decode b_G_chooseCommand 12 = .ok (.getfield 49, 3) := by decide +kernel
theorem d_G_chooseCommand_15 : decode b_G_chooseCommand 15 = .ok (.iconst 0, 1) := by decide +kernel
theorem d_G_chooseCommand_16 : decode b_G_chooseCommand 16 = .ok (.invokevirtual 207, 3) := by decide +kernel
theorem d_G_chooseCommand_19 : decode b_G_chooseCommand 19 = .ok (.iconst 5, 1) := by decide +kernel
theorem d_G_chooseCommand_20 : decode b_G_chooseCommand 20 = .ok (.if_icmp .ne 7, 3) := by decide +kernel
theorem d_G_chooseCommand_23 : decode b_G_chooseCommand 23 = .ok (.iconst 1, 1) := by decide +kernel
theorem d_G_chooseCommand_24 : decode b_G_chooseCommand 24 = .ok (.goto 4, 3) := by decide +kernel
theorem d_G_chooseCommand_27 : decode b_G_chooseCommand 27 = .ok (.iconst 0, 1) := by decide +kernel
theorem d_G_chooseCommand_28 : decode b_G_chooseCommand 28 = .ok (.istore_n 2, 1) := by decide +kernel
theorem d_G_chooseCommand_29 : decode b_G_chooseCommand 29 = .ok (.aload_n 0, 1) := by decide +kernel
theorem d_G_chooseCommand_30 : decode b_G_chooseCommand 30 = .ok (.getfield 49, 3) := by decide +kernel
theorem d_G_chooseCommand_33 : decode b_G_chooseCommand 33 = .ok (.invokevirtual 162, 3) := by decide +kernel
theorem d_G_chooseCommand_36 : decode b_G_chooseCommand 36 = .ok (.iconst 2, 1) := by decide +kernel
theorem d_G_chooseCommand_37 : decode b_G_chooseCommand 37 = .ok (.if_icmp .ne 20, 3) := by decide +kernel
theorem d_G_chooseCommand_40 : decode b_G_chooseCommand 40 = .ok (.aload_n 0, 1) := by decide +kernel
theorem d_G_chooseCommand_41 : decode b_G_chooseCommand 41 = .ok (.getfield 49, 3) := by decide +kernel
theorem d_G_chooseCommand_44 : decode b_G_chooseCommand 44 = .ok (.iconst 0, 1) := by decide +kernel
theorem d_G_chooseCommand_45 : decode b_G_chooseCommand 45 = .ok (.invokevirtual 207, 3) := by decide +kernel
theorem d_G_chooseCommand_48 : decode b_G_chooseCommand 48 = .ok (.bipush 6, 2) := by decide +kernel
theorem d_G_chooseCommand_50 : decode b_G_chooseCommand 50 = .ok (.if_icmp .ne 7, 3) := by decide +kernel
theorem d_G_chooseCommand_53 : decode b_G_chooseCommand 53 = .ok (.iconst 1, 1) := by decide +kernel
theorem d_G_chooseCommand_54 : decode b_G_chooseCommand 54 = .ok (.goto 4, 3) := by decide +kernel
theorem d_G_chooseCommand_57 : decode b_G_chooseCommand 57 = .ok (.iconst 0, 1) := by decide +kernel
theorem d_G_chooseCommand_58 : decode b_G_chooseCommand 58 = .ok (.istore_n 3, 1) := by decide +kernel
theorem d_G_chooseCommand_59 : decode b_G_chooseCommand 59 = .ok (.iload_n 3, 1) := by decide +kernel
theorem d_G_chooseCommand_60 : decode b_G_chooseCommand 60 = .ok (.ifCond .eq 45, 3) := by decide +kernel
theorem d_G_chooseCommand_63 : decode b_G_chooseCommand 63 = .ok (.aload_n 0, 1) := by decide +kernel
theorem d_G_chooseCommand_64 : decode b_G_chooseCommand 64 = .ok (.getfield 46, 3) := by decide +kernel
theorem d_G_chooseCommand_67 : decode b_G_chooseCommand 67 = .ok (.aload_n 0, 1) := by decide +kernel
theorem d_G_chooseCommand_68 : decode b_G_chooseCommand 68 = .ok (.getfield 76, 3) := by decide +kernel
theorem d_G_chooseCommand_71 : decode b_G_chooseCommand 71 = .ok (.getfield 240, 3) := by decide +kernel
theorem d_G_chooseCommand_74 : decode b_G_chooseCommand 74 = .ok (.invokevirtual 207, 3) := by decide +kernel
theorem d_G_chooseCommand_77 : decode b_G_chooseCommand 77 = .ok (.iconst (-1), 1) := by decide +kernel
theorem d_G_chooseCommand_78 : decode b_G_chooseCommand 78 = .ok (.if_icmp .eq 27, 3) := by decide +kernel
theorem d_G_chooseCommand_81 : decode b_G_chooseCommand 81 = .ok (.aload_n 0, 1) := by decide +kernel
theorem d_G_chooseCommand_82 : decode b_G_chooseCommand 82 = .ok (.getfield 46, 3) := by decide +kernel
theorem d_G_chooseCommand_85 : decode b_G_chooseCommand 85 = .ok (.aload_n 0, 1) := by decide +kernel
theorem d_G_chooseCommand_86 : decode b_G_chooseCommand 86 = .ok (.getfield 76, 3) := by decide +kernel
theorem d_G_chooseCommand_89 : decode b_G_chooseCommand 89 = .ok (.getfield 240, 3) := by decide +kernel
theorem d_G_chooseCommand_92 : decode b_G_chooseCommand 92 = .ok (.aload_n 0, 1) := by decide +kernel
theorem d_G_chooseCommand_93 : decode b_G_chooseCommand 93 = .ok (.getfield 49, 3) := by decide +kernel
theorem d_G_chooseCommand_96 : decode b_G_chooseCommand 96 = .ok (.iconst 1, 1) := by decide +kernel
theorem d_G_chooseCommand_97 : decode b_G_chooseCommand 97 = .ok (.invokevirtual 207, 3) := by decide +kernel
theorem d_G_chooseCommand_100 : decode b_G_chooseCommand 100 = .ok (.invokevirtual 286, 3) := by decide +kernel
theorem d_G_chooseCommand_103 : decode b_G_chooseCommand 103 = .ok (.iconst 0, 1) := by decide +kernel
theorem d_G_chooseCommand_104 : decode b_G_chooseCommand 104 = .ok (.ireturn, 1) := by decide +kernel
theorem d_G_chooseCommand_105 : decode b_G_chooseCommand 105 = .ok (.iload_n 2, 1) := by decide +kernel
theorem d_G_chooseCommand_106 : decode b_G_chooseCommand 106 = .ok (.ifCond .eq 34, 3) := by decide +kernel
theorem d_G_chooseCommand_109 : decode b_G_chooseCommand 109 = .ok (.aload_n 0, 1) := by decide +kernel
theorem d_G_chooseCommand_110 : decode b_G_chooseCommand 110 = .ok (.getfield 52, 3) := by decide +kernel
theorem d_G_chooseCommand_113 : decode b_G_chooseCommand 113 = .ok (.invokevirtual 162, 3) := by decide +kernel
theorem d_G_chooseCommand_116 : decode b_G_chooseCommand 116 = .ok (.ifCond .le 24, 3) := by decide +kernel
theorem d_G_chooseCommand_119 : decode b_G_chooseCommand 119 = .ok (.aload_n 0, 1) := by decide +kernel
theorem d_G_chooseCommand_120 : decode b_G_chooseCommand 120 = .ok (.getfield 46, 3) := by decide +kernel
theorem d_G_chooseCommand_123 : decode b_G_chooseCommand 123 = .ok (.aload_n 0, 1) := by decide +kernel
theorem d_G_chooseCommand_124 : decode b_G_chooseCommand 124 = .ok (.getfield 52, 3) := by decide +kernel
theorem d_G_chooseCommand_127 : decode b_G_chooseCommand 127 = .ok (.invokevirtual 288, 3) := by decide +kernel
theorem d_G_chooseCommand_130 : decode b_G_chooseCommand 130 = .ok (.aload_n 0, 1) := by decide +kernel
theorem d_G_chooseCommand_131 : decode b_G_chooseCommand 131 = .ok (.aload_n 0, 1) := by decide +kernel
theorem d_G_chooseCommand_132 : decode b_G_chooseCommand 132 = .ok (.getfield 84, 3) := by decide +kernel
theorem d_G_chooseCommand_135 : decode b_G_chooseCommand 135 = .ok (.putfield 80, 3) := by decide +kernel
theorem d_G_chooseCommand_138 : decode b_G_chooseCommand 138 = .ok (.iconst 0, 1) := by decide +kernel
theorem d_G_chooseCommand_139 : decode b_G_chooseCommand 139 = .ok (.ireturn, 1) := by decide +kernel
theorem d_G_chooseCommand_140 : decode b_G_chooseCommand 140 = .ok (.aload_n 0, 1) := by decide +kernel
theorem d_G_chooseCommand_141 : decode b_G_chooseCommand 141 = .ok (.getfield 46, 3) := by decide +kernel
theorem d_G_chooseCommand_144 : decode b_G_chooseCommand 144 = .ok (.aload_n 0, 1) := by decide +kernel
theorem d_G_chooseCommand_145 : decode b_G_chooseCommand 145 = .ok (.getfield 49, 3) := by decide +kernel
theorem d_G_chooseCommand_148 : decode b_G_chooseCommand 148 = .ok (.invokevirtual 288, 3) := by decide +kernel
theorem d_G_chooseCommand_151 : decode b_G_chooseCommand 151 = .ok (.aload_n 0, 1) := by decide +kernel
theorem d_G_chooseCommand_152 : decode b_G_chooseCommand 152 = .ok (.iload_n 1, 1) := by decide +kernel
theorem d_G_chooseCommand_153 : decode b_G_chooseCommand 153 = .ok (.putfield 80, 3) := by decide +kernel
theorem d_G_chooseCommand_156 : decode b_G_chooseCommand 156 = .ok (.aload_n 0, 1) := by decide +kernel
theorem d_G_chooseCommand_157 : decode b_G_chooseCommand 157 = .ok (.getfield 49, 3) := by decide +kernel
theorem d_G_chooseCommand_160 : decode b_G_chooseCommand 160 = .ok (.invokevirtual 162, 3) := by decide +kernel
theorem d_G_chooseCommand_163 : decode b_G_chooseCommand 163 = .ok (.ifCond .ne 5, 3) := by decide +kernel
theorem d_G_chooseCommand_166 : decode b_G_chooseCommand 166 = .ok (.iconst 1, 1) := by decide +kernel
theorem d_G_chooseCommand_167 : decode b_G_chooseCommand 167 = .ok (.ireturn, 1) := by decide +kernel
theorem d_G_chooseCommand_168 : decode b_G_chooseCommand 168 = .ok (.iload_n 2, 1) := by decide +kernel
theorem d_G_chooseCommand_169 : decode b_G_chooseCommand 169 = .ok (.ifCond .eq 7, 3) := by decide +kernel
theorem d_G_chooseCommand_172 : decode b_G_chooseCommand 172 = .ok (.iconst 3, 1) := by decide +kernel
theorem d_G_chooseCommand_173 : decode b_G_chooseCommand 173 = .ok (.goto 12, 3) := by decide +kernel
theorem d_G_chooseCommand_176 : decode b_G_chooseCommand 176 = .ok (.iload_n 3, 1) := by decide +kernel
theorem d_G_chooseCommand_177 : decode b_G_chooseCommand 177 = .ok (.ifCond .eq 7, 3) := by decide +kernel
theorem d_G_chooseCommand_180 : decode b_G_chooseCommand 180 = .ok (.iconst 4, 1) := by decide +kernel
theorem d_G_chooseCommand_181 : decode b_G_chooseCommand 181 = .ok (.goto 4, 3) := by decide +kernel
theorem d_G_chooseCommand_184 : decode b_G_chooseCommand 184 = .ok (.iconst 0, 1) := by decide +kernel
theorem d_G_chooseCommand_185 : decode b_G_chooseCommand 185 = .ok (.ireturn, 1) := by decide +kernel
theorem d_Report_begin_0 : decode b_Report_begin 0 = .ok (.aload_n 0, 1) := by decide +kernel
theorem d_Report_begin_1 : decode b_Report_begin 1 = .ok (.getfield 14, 3) := by decide +kernel
theorem d_Report_begin_4 : decode b_Report_begin 4 = .ok (.invokevirtual 39, 3) := by decide +kernel
theorem d_Report_begin_7 : decode b_Report_begin 7 = .ok (.aload_n 0, 1) := by decide +kernel
theorem d_Report_begin_8 : decode b_Report_begin 8 = .ok (.getfield 20, 3) := by decide +kernel
theorem d_Report_begin_11 : decode b_Report_begin 11 = .ok (.invokevirtual 39, 3) := by decide +kernel
theorem d_Report_begin_14 : decode b_Report_begin 14 = .ok (.aload_n 0, 1) := by decide +kernel
theorem d_Report_begin_15 : decode b_Report_begin 15 = .ok (.getfield 23, 3) := by decide +kernel
theorem d_Report_begin_18 : decode b_Report_begin 18 = .ok (.invokevirtual 39, 3) := by decide +kernel
theorem d_Report_begin_21 : decode b_Report_begin 21 = .ok (.aload_n 0, 1) := by decide +kernel
theorem d_Report_begin_22 : decode b_Report_begin 22 = .ok (.getfield 26, 3) := by decide +kernel
theorem d_Report_begin_25 : decode b_Report_begin 25 = .ok (.invokevirtual 39, 3) := by decide +kernel
theorem d_Report_begin_28 : decode b_Report_begin 28 = .ok (.aload_n 0, 1) := by decide +kernel
theorem d_Report_begin_29 : decode b_Report_begin 29 = .ok (.iconst (-1), 1) := by decide +kernel
theorem d_Report_begin_30 : decode b_Report_begin 30 = .ok (.putfield 29, 3) := by decide +kernel
theorem d_Report_begin_33 : decode b_Report_begin 33 = .ok (.aload_n 0, 1) := by decide +kernel
theorem d_Report_begin_34 : decode b_Report_begin 34 = .ok (.iconst 0, 1) := by decide +kernel
theorem d_Report_begin_35 : decode b_Report_begin 35 = .ok (.putfield 42, 3) := by decide +kernel
theorem d_Report_begin_38 : decode b_Report_begin 38 = .ok (.aload_n 0, 1) := by decide +kernel
theorem d_Report_begin_39 : decode b_Report_begin 39 = .ok (.iconst (-1), 1) := by decide +kernel
theorem d_Report_begin_40 : decode b_Report_begin 40 = .ok (.putfield 33, 3) := by decide +kernel
theorem d_Report_begin_43 : decode b_Report_begin 43 = .ok (.aload_n 0, 1) := by decide +kernel
theorem d_Report_begin_44 : decode b_Report_begin 44 = .ok (.iconst (-1), 1) := by decide +kernel
theorem d_Report_begin_45 : decode b_Report_begin 45 = .ok (.putfield 36, 3) := by decide +kernel
theorem d_Report_begin_48 : decode b_Report_begin 48 = .ok (.return_, 1) := by decide +kernel
theorem d_Report_fail_0 : decode b_Report_fail 0 = .ok (.aload_n 0, 1) := by decide +kernel
theorem d_Report_fail_1 : decode b_Report_fail 1 = .ok (.iload_n 1, 1) := by decide +kernel
theorem d_Report_fail_2 : decode b_Report_fail 2 = .ok (.putfield 42, 3) := by decide +kernel
theorem d_Report_fail_5 : decode b_Report_fail 5 = .ok (.aload_n 0, 1) := by decide +kernel
theorem d_Report_fail_6 : decode b_Report_fail 6 = .ok (.iload_n 2, 1) := by decide +kernel
theorem d_Report_fail_7 : decode b_Report_fail 7 = .ok (.putfield 33, 3) := by decide +kernel
theorem d_Report_fail_10 : decode b_Report_fail 10 = .ok (.aload_n 0, 1) := by decide +kernel
theorem d_Report_fail_11 : decode b_Report_fail 11 = .ok (.iload_n 3, 1) := by decide +kernel
theorem d_Report_fail_12 : decode b_Report_fail 12 = .ok (.putfield 36, 3) := by decide +kernel
theorem d_Report_fail_15 : decode b_Report_fail 15 = .ok (.return_, 1) := by decide +kernel
theorem d_Lines_count_0 : decode b_Lines_count 0 = .ok (.aload_n 0, 1) := by decide +kernel
theorem d_Lines_count_1 : decode b_Lines_count 1 = .ok (.getfield 31, 3) := by decide +kernel
theorem d_Lines_count_4 : decode b_Lines_count 4 = .ok (.ireturn, 1) := by decide +kernel
theorem d_Report_isAsked_0 : decode b_Report_isAsked 0 = .ok (.aload_n 0, 1) := by decide +kernel
theorem d_Report_isAsked_1 : decode b_Report_isAsked 1 = .ok (.getfield 42, 3) := by decide +kernel
theorem d_Report_isAsked_4 : decode b_Report_isAsked 4 = .ok (.bipush 15, 2) := by decide +kernel
end
section
theorem d_Report_isAsked_6 : decode b_Report_isAsked 6 = .ok (.if_icmp .eq 12, 3) := by decide +kernel
theorem d_Report_isAsked_9 : decode b_Report_isAsked 9 = .ok (.aload_n 0, 1) := by decide +kernel
theorem d_Report_isAsked_10 : decode b_Report_isAsked 10 = .ok (.getfield 42, 3) := by decide +kernel
theorem d_Report_isAsked_13 : decode b_Report_isAsked 13 = .ok (.bipush 16, 2) := by decide +kernel
theorem d_Report_isAsked_15 : decode b_Report_isAsked 15 = .ok (.if_icmp .ne 7, 3) := by decide +kernel
theorem d_Report_isAsked_18 : decode b_Report_isAsked 18 = .ok (.iconst 1, 1) := by decide +kernel
theorem d_Report_isAsked_19 : decode b_Report_isAsked 19 = .ok (.goto 4, 3) := by decide +kernel
theorem d_Report_isAsked_22 : decode b_Report_isAsked 22 = .ok (.iconst 0, 1) := by decide +kernel
theorem d_Report_isAsked_23 : decode b_Report_isAsked 23 = .ok (.ireturn, 1) := by decide +kernel
theorem d_Lines_verbOf_0 : decode b_Lines_verbOf 0 = .ok (.aload_n 0, 1) := by decide +kernel
theorem d_Lines_verbOf_1 : decode b_Lines_verbOf 1 = .ok (.iload_n 1, 1) := by decide +kernel
theorem d_Lines_verbOf_2 : decode b_Lines_verbOf 2 = .ok (.invokevirtual 39, 3) := by decide +kernel
theorem d_Lines_verbOf_5 : decode b_Lines_verbOf 5 = .ok (.ifCond .eq 12, 3) := by decide +kernel
theorem d_Lines_verbOf_8 : decode b_Lines_verbOf 8 = .ok (.aload_n 0, 1) := by decide +kernel
theorem d_Lines_verbOf_9 : decode b_Lines_verbOf 9 = .ok (.getfield 9, 3) := by decide +kernel
theorem d_Lines_verbOf_12 : decode b_Lines_verbOf 12 = .ok (.iload_n 1, 1) := by decide +kernel
theorem d_Lines_verbOf_13 : decode b_Lines_verbOf 13 = .ok (.iaload, 1) := by decide +kernel
theorem d_Lines_verbOf_14 : decode b_Lines_verbOf 14 = .ok (.goto 4, 3) := by decide +kernel
theorem d_Lines_verbOf_17 : decode b_Lines_verbOf 17 = .ok (.iconst (-1), 1) := by decide +kernel
theorem d_Lines_verbOf_18 : decode b_Lines_verbOf 18 = .ok (.ireturn, 1) := by decide +kernel
theorem d_Slot_empty_0 : decode b_Slot_empty 0 = .ok (.aload_n 0, 1) := by decide +kernel
theorem d_Slot_empty_1 : decode b_Slot_empty 1 = .ok (.getfield 14, 3) := by decide +kernel
theorem d_Slot_empty_4 : decode b_Slot_empty 4 = .ok (.invokevirtual 27, 3) := by decide +kernel
theorem d_Slot_empty_7 : decode b_Slot_empty 7 = .ok (.aload_n 0, 1) := by decide +kernel
theorem d_Slot_empty_8 : decode b_Slot_empty 8 = .ok (.iconst (-1), 1) := by decide +kernel
theorem d_Slot_empty_9 : decode b_Slot_empty 9 = .ok (.putfield 20, 3) := by decide +kernel
theorem d_Slot_empty_12 : decode b_Slot_empty 12 = .ok (.aload_n 0, 1) := by decide +kernel
theorem d_Slot_empty_13 : decode b_Slot_empty 13 = .ok (.iconst (-1), 1) := by decide +kernel
theorem d_Slot_empty_14 : decode b_Slot_empty 14 = .ok (.putfield 24, 3) := by decide +kernel
theorem d_Slot_empty_17 : decode b_Slot_empty 17 = .ok (.aload_n 0, 1) := by decide +kernel
theorem d_Slot_empty_18 : decode b_Slot_empty 18 = .ok (.lconst 0, 1) := by decide +kernel
theorem d_Slot_empty_19 : decode b_Slot_empty 19 = .ok (.putfield 30, 3) := by decide +kernel
theorem d_Slot_empty_22 : decode b_Slot_empty 22 = .ok (.return_, 1) := by decide +kernel
theorem d_Trial_begin_0 : decode b_Trial_begin 0 = .ok (.aload_n 0, 1) := by decide +kernel
theorem d_Trial_begin_1 : decode b_Trial_begin 1 = .ok (.iload_n 1, 1) := by decide +kernel
theorem d_Trial_begin_2 : decode b_Trial_begin 2 = .ok (.putfield 33, 3) := by decide +kernel
theorem d_Trial_begin_5 : decode b_Trial_begin 5 = .ok (.aload_n 0, 1) := by decide +kernel
theorem d_Trial_begin_6 : decode b_Trial_begin 6 = .ok (.iconst 1, 1) := by decide +kernel
theorem d_Trial_begin_7 : decode b_Trial_begin 7 = .ok (.putfield 83, 3) := by decide +kernel
theorem d_Trial_begin_10 : decode b_Trial_begin 10 = .ok (.aload_n 0, 1) := by decide +kernel
theorem d_Trial_begin_11 : decode b_Trial_begin 11 = .ok (.iconst 0, 1) := by decide +kernel
theorem d_Trial_begin_12 : decode b_Trial_begin 12 = .ok (.putfield 76, 3) := by decide +kernel
theorem d_Trial_begin_15 : decode b_Trial_begin 15 = .ok (.aload_n 0, 1) := by decide +kernel
theorem d_Trial_begin_16 : decode b_Trial_begin 16 = .ok (.iconst (-1), 1) := by decide +kernel
theorem d_Trial_begin_17 : decode b_Trial_begin 17 = .ok (.putfield 37, 3) := by decide +kernel
theorem d_Trial_begin_20 : decode b_Trial_begin 20 = .ok (.aload_n 0, 1) := by decide +kernel
theorem d_Trial_begin_21 : decode b_Trial_begin 21 = .ok (.getfield 12, 3) := by decide +kernel
theorem d_Trial_begin_24 : decode b_Trial_begin 24 = .ok (.invokevirtual 127, 3) := by decide +kernel
theorem d_Trial_begin_27 : decode b_Trial_begin 27 = .ok (.aload_n 0, 1) := by decide +kernel
theorem d_Trial_begin_28 : decode b_Trial_begin 28 = .ok (.getfield 18, 3) := by decide +kernel
theorem d_Trial_begin_31 : decode b_Trial_begin 31 = .ok (.invokevirtual 127, 3) := by decide +kernel
theorem d_Trial_begin_34 : decode b_Trial_begin 34 = .ok (.aload_n 0, 1) := by decide +kernel
theorem d_Trial_begin_35 : decode b_Trial_begin 35 = .ok (.getfield 26, 3) := by decide +kernel
theorem d_Trial_begin_38 : decode b_Trial_begin 38 = .ok (.invokevirtual 130, 3) := by decide +kernel
theorem d_Trial_begin_41 : decode b_Trial_begin 41 = .ok (.aload_n 0, 1) := by decide +kernel
theorem d_Trial_begin_42 : decode b_Trial_begin 42 = .ok (.getfield 30, 3) := by decide +kernel
theorem d_Trial_begin_45 : decode b_Trial_begin 45 = .ok (.invokevirtual 130, 3) := by decide +kernel
theorem d_Trial_begin_48 : decode b_Trial_begin 48 = .ok (.return_, 1) := by decide +kernel
theorem d_G_isOfOneThing_0 : decode b_G_isOfOneThing 0 = .ok (.iload_n 0, 1) := by decide +kernel
theorem d_G_isOfOneThing_1 : decode b_G_isOfOneThing 1 = .ok (.iconst 2, 1) := by decide +kernel
theorem d_G_isOfOneThing_2 : decode b_G_isOfOneThing 2 = .ok (.if_icmp .lt 12, 3) := by decide +kernel
theorem d_G_isOfOneThing_5 : decode b_G_isOfOneThing 5 = .ok (.iload_n 0, 1) := by decide +kernel
theorem d_G_isOfOneThing_6 : decode b_G_isOfOneThing 6 = .ok (.iconst 5, 1) := by decide +kernel
theorem d_G_isOfOneThing_7 : decode b_G_isOfOneThing 7 = .ok (.if_icmp .gt 7, 3) := by decide +kernel
theorem d_G_isOfOneThing_10 : decode b_G_isOfOneThing 10 = .ok (.iconst 1, 1) := by decide +kernel
theorem d_G_isOfOneThing_11 : decode b_G_isOfOneThing 11 = .ok (.goto 4, 3) := by decide +kernel
theorem d_G_isOfOneThing_14 : decode b_G_isOfOneThing 14 = .ok (.iconst 0, 1) := by decide +kernel
theorem d_G_isOfOneThing_15 : decode b_G_isOfOneThing 15 = .ok (.ireturn, 1) := by decide +kernel
theorem d_Trial_fail_0 : decode b_Trial_fail 0 = .ok (.aload_n 0, 1) := by decide +kernel
theorem d_Trial_fail_1 : decode b_Trial_fail 1 = .ok (.iload_n 1, 1) := by decide +kernel
theorem d_Trial_fail_2 : decode b_Trial_fail 2 = .ok (.putfield 76, 3) := by decide +kernel
theorem d_Trial_fail_5 : decode b_Trial_fail 5 = .ok (.aload_n 0, 1) := by decide +kernel
theorem d_Trial_fail_6 : decode b_Trial_fail 6 = .ok (.iload_n 2, 1) := by decide +kernel
theorem d_Trial_fail_7 : decode b_Trial_fail 7 = .ok (.putfield 37, 3) := by decide +kernel
theorem d_Trial_fail_10 : decode b_Trial_fail 10 = .ok (.return_, 1) := by decide +kernel
theorem d_Trial_takeOut_0 : decode b_Trial_takeOut 0 = .ok (.aload_n 1, 1) := by decide +kernel
theorem d_Trial_takeOut_1 : decode b_Trial_takeOut 1 = .ok (.getfield 64, 3) := by decide +kernel
theorem d_Trial_takeOut_4 : decode b_Trial_takeOut 4 = .ok (.bipush 8, 2) := by decide +kernel
theorem d_Trial_takeOut_6 : decode b_Trial_takeOut 6 = .ok (.if_icmp .ne 13, 3) := by decide +kernel
theorem d_Trial_takeOut_9 : decode b_Trial_takeOut 9 = .ok (.aload_n 2, 1) := by decide +kernel
theorem d_Trial_takeOut_10 : decode b_Trial_takeOut 10 = .ok (.getfield 64, 3) := by decide +kernel
theorem d_Trial_takeOut_13 : decode b_Trial_takeOut 13 = .ok (.invokestatic 108, 3) := by decide +kernel
theorem d_Trial_takeOut_16 : decode b_Trial_takeOut 16 = .ok (.ifCond .ne 4, 3) := by decide +kernel
theorem d_Trial_takeOut_19 : decode b_Trial_takeOut 19 = .ok (.return_, 1) := by decide +kernel
theorem d_Trial_takeOut_20 : decode b_Trial_takeOut 20 = .ok (.aload_n 1, 1) := by decide +kernel
theorem d_Trial_takeOut_21 : decode b_Trial_takeOut 21 = .ok (.astore_n 3, 1) := by decide +kernel
theorem d_Trial_takeOut_22 : decode b_Trial_takeOut 22 = .ok (.aload_n 3, 1) := by decide +kernel
theorem d_Trial_takeOut_23 : decode b_Trial_takeOut 23 = .ok (.aload_n 3, 1) := by decide +kernel
theorem d_Trial_takeOut_24 : decode b_Trial_takeOut 24 = .ok (.getfield 159, 3) := by decide +kernel
theorem d_Trial_takeOut_27 : decode b_Trial_takeOut 27 = .ok (.aload_n 2, 1) := by decide +kernel
theorem d_Trial_takeOut_28 : decode b_Trial_takeOut 28 = .ok (.getfield 159, 3) := by decide +kernel
theorem d_Trial_takeOut_31 : decode b_Trial_takeOut 31 = .ok (.ldc2_w 192, 3) := by decide +kernel
theorem d_Trial_takeOut_34 : decode b_Trial_takeOut 34 = .ok (.lxor, 1) := by decide +kernel
theorem d_Trial_takeOut_35 : decode b_Trial_takeOut 35 = .ok (.land, 1) := by decide +kernel
theorem d_Trial_takeOut_36 : decode b_Trial_takeOut 36 = .ok (.dup2_x1, 1) := by decide +kernel
theorem d_Trial_takeOut_37 : decode b_Trial_takeOut 37 = .ok (.putfield 159, 3) := by decide +kernel
theorem d_Trial_takeOut_40 : decode b_Trial_takeOut 40 = .ok (.pop2, 1) := by decide +kernel
theorem d_Trial_takeOut_41 : decode b_Trial_takeOut 41 = .ok (.aload_n 1, 1) := by decide +kernel
theorem d_Trial_takeOut_42 : decode b_Trial_takeOut 42 = .ok (.getfield 159, 3) := by decide +kernel
theorem d_Trial_takeOut_45 : decode b_Trial_takeOut 45 = .ok (.lconst 0, 1) := by decide +kernel
theorem d_Trial_takeOut_46 : decode b_Trial_takeOut 46 = .ok (.lcmp, 1) := by decide +kernel
theorem d_Trial_takeOut_47 : decode b_Trial_takeOut 47 = .ok (.ifCond .ne 13, 3) := by decide +kernel
theorem d_Trial_takeOut_50 : decode b_Trial_takeOut 50 = .ok (.aload_n 0, 1) := by decide +kernel
theorem d_Trial_takeOut_51 : decode b_Trial_takeOut 51 = .ok (.bipush 14, 2) := by decide +kernel
theorem d_Trial_takeOut_53 : decode b_Trial_takeOut 53 = .ok (.aload_n 1, 1) := by decide +kernel
theorem d_Trial_takeOut_54 : decode b_Trial_takeOut 54 = .ok (.getfield 131, 3) := by decide +kernel
theorem d_Trial_takeOut_57 : decode b_Trial_takeOut 57 = .ok (.invokevirtual 136, 3) := by decide +kernel
theorem d_Trial_takeOut_60 : decode b_Trial_takeOut 60 = .ok (.return_, 1) := by decide +kernel
theorem d_Row_addThings_0 : decode b_Row_addThings 0 = .ok (.iconst 0, 1) := by decide +kernel
theorem d_Row_addThings_1 : decode b_Row_addThings 1 = .ok (.istore_n 3, 1) := by decide +kernel
theorem d_Row_addThings_2 : decode b_Row_addThings 2 = .ok (.iload_n 3, 1) := by decide +kernel
theorem d_Row_addThings_3 : decode b_Row_addThings 3 = .ok (.bipush 40, 2) := by decide +kernel
theorem d_Row_addThings_5 : decode b_Row_addThings 5 = .ok (.if_icmp .ge 24, 3) := by decide +kernel
theorem d_Row_addThings_8 : decode b_Row_addThings 8 = .ok (.lload_n 1, 1) := by decide +kernel
theorem d_Row_addThings_9 : decode b_Row_addThings 9 = .ok (.iload_n 3, 1) := by decide +kernel
theorem d_Row_addThings_10 : decode b_Row_addThings 10 = .ok (.lshr, 1) := by decide +kernel
theorem d_Row_addThings_11 : decode b_Row_addThings 11 = .ok (.lconst 1, 1) := by decide +kernel
theorem d_Row_addThings_12 : decode b_Row_addThings 12 = .ok (.land, 1) := by decide +kernel
theorem d_Row_addThings_13 : decode b_Row_addThings 13 = .ok (.lconst 0, 1) := by decide +kernel
theorem d_Row_addThings_14 : decode b_Row_addThings 14 = .ok (.lcmp, 1) := by decide +kernel
theorem d_Row_addThings_15 : decode b_Row_addThings 15 = .ok (.ifCond .eq 8, 3) := by decide +kernel
theorem d_Row_addThings_18 : decode b_Row_addThings 18 = .ok (.aload_n 0, 1) := by decide +kernel
theorem d_Row_addThings_19 : decode b_Row_addThings 19 = .ok (.iload_n 3, 1) := by decide +kernel
theorem d_Row_addThings_20 : decode b_Row_addThings 20 = .ok (.invokevirtual 31, 3) := by decide +kernel
theorem d_Row_addThings_23 : decode b_Row_addThings 23 = .ok (.iinc 3 1, 3) := by decide +kernel
theorem d_Row_addThings_26 : decode b_Row_addThings 26 = .ok (.goto (-24), 3) := by decide +kernel
theorem d_Row_addThings_29 : decode b_Row_addThings 29 = .ok (.return_, 1) := by decide +kernel
theorem d_Trial_finish_0 : decode b_Trial_finish 0 = .ok (.aload_n 0, 1) := by decide +kernel
theorem d_Trial_finish_1 : decode b_Trial_finish 1 = .ok (.getfield 83, 3) := by decide +kernel
theorem d_Trial_finish_4 : decode b_Trial_finish 4 = .ok (.aload_n 0, 1) := by decide +kernel
theorem d_Trial_finish_5 : decode b_Trial_finish 5 = .ok (.getfield 52, 3) := by decide +kernel
theorem d_Trial_finish_8 : decode b_Trial_finish 8 = .ok (.invokevirtual 86, 3) := by decide +kernel
theorem d_Trial_finish_11 : decode b_Trial_finish 11 = .ok (.if_icmp .ge 14, 3) := by decide +kernel
theorem d_Trial_finish_14 : decode b_Trial_finish 14 = .ok (.aload_n 0, 1) := by decide +kernel
theorem d_Trial_finish_15 : decode b_Trial_finish 15 = .ok (.bipush 6, 2) := by decide +kernel
theorem d_Trial_finish_17 : decode b_Trial_finish 17 = .ok (.aload_n 0, 1) := by decide +kernel
theorem d_Trial_finish_18 : decode b_Trial_finish 18 = .ok (.getfield 83, 3) := by decide +kernel
theorem d_Trial_finish_21 : decode b_Trial_finish 21 = .ok (.invokevirtual 136, 3) := by decide +kernel
theorem d_Trial_finish_24 : decode b_Trial_finish 24 = .ok (.return_, 1) := by decide +kernel
theorem d_Trial_finish_25 : decode b_Trial_finish 25 = .ok (.aload_n 0, 1) := by decide +kernel
theorem d_Trial_finish_26 : decode b_Trial_finish 26 = .ok (.aload_n 0, 1) := by decide +kernel
theorem d_Trial_finish_27 : decode b_Trial_finish 27 = .ok (.getfield 12, 3) := by decide +kernel
theorem d_Trial_finish_30 : decode b_Trial_finish 30 = .ok (.aload_n 0, 1) := by decide +kernel
theorem d_Trial_finish_31 : decode b_Trial_finish 31 = .ok (.getfield 18, 3) := by decide +kernel
theorem d_Trial_finish_34 : decode b_Trial_finish 34 = .ok (.invokevirtual 209, 3) := by decide +kernel
theorem d_Trial_finish_37 : decode b_Trial_finish 37 = .ok (.aload_n 0, 1) := by decide +kernel
theorem d_Trial_finish_38 : decode b_Trial_finish 38 = .ok (.aload_n 0, 1) := by decide +kernel
theorem d_Trial_finish_39 : decode b_Trial_finish 39 = .ok (.getfield 18, 3) := by decide +kernel
theorem d_Trial_finish_42 : decode b_Trial_finish 42 = .ok (.aload_n 0, 1) := by decide +kernel
theorem d_Trial_finish_43 : decode b_Trial_finish 43 = .ok (.getfield 12, 3) := by decide +kernel
theorem d_Trial_finish_46 : decode b_Trial_finish 46 = .ok (.invokevirtual 209, 3) := by decide +kernel
theorem d_Trial_finish_49 : decode b_Trial_finish 49 = .ok (.aload_n 0, 1) := by decide +kernel
theorem d_Trial_finish_50 : decode b_Trial_finish 50 = .ok (.getfield 12, 3) := by decide +kernel
theorem d_Trial_finish_53 : decode b_Trial_finish 53 = .ok (.getfield 144, 3) := by decide +kernel
theorem d_Trial_finish_56 : decode b_Trial_finish 56 = .ok (.aload_n 0, 1) := by decide +kernel
theorem d_Trial_finish_57 : decode b_Trial_finish 57 = .ok (.getfield 12, 3) := by decide +kernel
theorem d_Trial_finish_60 : decode b_Trial_finish 60 = .ok (.getfield 159, 3) := by decide +kernel
theorem d_Trial_finish_63 : decode b_Trial_finish 63 = .ok (.invokevirtual 182, 3) := by decide +kernel
theorem d_Trial_finish_66 : decode b_Trial_finish 66 = .ok (.aload_n 0, 1) := by decide +kernel
theorem d_Trial_finish_67 : decode b_Trial_finish 67 = .ok (.getfield 18, 3) := by decide +kernel
theorem d_Trial_finish_70 : decode b_Trial_finish 70 = .ok (.getfield 144, 3) := by decide +kernel
theorem d_Trial_finish_73 : decode b_Trial_finish 73 = .ok (.aload_n 0, 1) := by decide +kernel
theorem d_Trial_finish_74 : decode b_Trial_finish 74 = .ok (.getfield 18, 3) := by decide +kernel
theorem d_Trial_finish_77 : decode b_Trial_finish 77 = .ok (.getfield 159, 3) := by decide +kernel
theorem d_Trial_finish_80 : decode b_Trial_finish 80 = .ok (.invokevirtual 182, 3) := by decide +kernel
theorem d_Trial_finish_83 : decode b_Trial_finish 83 = .ok (.return_, 1) := by decide +kernel
theorem d_Trial_openSlot_0 : decode b_Trial_openSlot 0 = .ok (.aload_n 0, 1) := by decide +kernel
theorem d_Trial_openSlot_1 : decode b_Trial_openSlot 1 = .ok (.getfield 12, 3) := by decide +kernel
theorem d_Trial_openSlot_4 : decode b_Trial_openSlot 4 = .ok (.getfield 64, 3) := by decide +kernel
theorem d_Trial_openSlot_7 : decode b_Trial_openSlot 7 = .ok (.iconst (-1), 1) := by decide +kernel
theorem d_Trial_openSlot_8 : decode b_Trial_openSlot 8 = .ok (.if_icmp .ne 10, 3) := by decide +kernel
theorem d_Trial_openSlot_11 : decode b_Trial_openSlot 11 = .ok (.aload_n 0, 1) := by decide +kernel
theorem d_Trial_openSlot_12 : decode b_Trial_openSlot 12 = .ok (.getfield 12, 3) := by decide +kernel
theorem d_Trial_openSlot_15 : decode b_Trial_openSlot 15 = .ok (.goto 7, 3) := by decide +kernel
theorem d_Trial_openSlot_18 : decode b_Trial_openSlot 18 = .ok (.aload_n 0, 1) := by decide +kernel
theorem d_Trial_openSlot_19 : decode b_Trial_openSlot 19 = .ok (.getfield 18, 3) := by decide +kernel
theorem d_Trial_openSlot_22 : decode b_Trial_openSlot 22 = .ok (.astore_n 2, 1) := by decide +kernel
theorem d_Trial_openSlot_23 : decode b_Trial_openSlot 23 = .ok (.aload_n 2, 1) := by decide +kernel
theorem d_Trial_openSlot_24 : decode b_Trial_openSlot 24 = .ok (.iload_n 1, 1) := by decide +kernel
theorem d_Trial_openSlot_25 : decode b_Trial_openSlot 25 = .ok (.putfield 64, 3) := by decide +kernel
theorem d_Trial_openSlot_28 : decode b_Trial_openSlot 28 = .ok (.aload_n 2, 1) := by decide +kernel
theorem d_Trial_openSlot_29 : decode b_Trial_openSlot 29 = .ok (.aload_n 0, 1) := by decide +kernel
theorem d_Trial_openSlot_30 : decode b_Trial_openSlot 30 = .ok (.getfield 83, 3) := by decide +kernel
theorem d_Trial_openSlot_33 : decode b_Trial_openSlot 33 = .ok (.putfield 131, 3) := by decide +kernel
theorem d_Trial_openSlot_36 : decode b_Trial_openSlot 36 = .ok (.aload_n 2, 1) := by decide +kernel
theorem d_Trial_openSlot_37 : decode b_Trial_openSlot 37 = .ok (.areturn, 1) := by decide +kernel
theorem d_Things_countedFor_0 : decode b_Things_countedFor 0 = .ok (.iload_n 1, 1) := by decide +kernel
theorem d_Things_countedFor_1 : decode b_Things_countedFor 1 = .ok (.tableswitch 42 3 5 #[27, 32, 37], 27) := by decide +kernel
theorem d_Things_countedFor_28 : decode b_Things_countedFor 28 = .ok (.aload_n 0, 1) := by decide +kernel
theorem d_Things_countedFor_29 : decode b_Things_countedFor 29 = .ok (.getfield 45, 3) := by decide +kernel
theorem d_Things_countedFor_32 : decode b_Things_countedFor 32 = .ok (.lreturn, 1) := by decide +kernel
theorem d_Things_countedFor_33 : decode b_Things_countedFor 33 = .ok (.aload_n 0, 1) := by decide +kernel
theorem d_Things_countedFor_34 : decode b_Things_countedFor 34 = .ok (.getfield 48, 3) := by decide +kernel
theorem d_Things_countedFor_37 : decode b_Things_countedFor 37 = .ok (.lreturn, 1) := by decide +kernel
theorem d_Things_countedFor_38 : decode b_Things_countedFor 38 = .ok (.aload_n 0, 1) := by decide +kernel
theorem d_Things_countedFor_39 : decode b_Things_countedFor 39 = .ok (.getfield 51, 3) := by decide +kernel
theorem d_Things_countedFor_42 : decode b_Things_countedFor 42 = .ok (.lreturn, 1) := by decide +kernel
theorem d_Things_countedFor_43 : decode b_Things_countedFor 43 = .ok (.aload_n 0, 1) := by decide +kernel
theorem d_Things_countedFor_44 : decode b_Things_countedFor 44 = .ok (.getfield 41, 3) := by decide +kernel
theorem d_Things_countedFor_47 : decode b_Things_countedFor 47 = .ok (.lreturn, 1) := by decide +kernel
theorem d_Trial_findOne_0 : decode b_Trial_findOne 0 = .ok (.aload_n 0, 1) := by decide +kernel
theorem d_Trial_findOne_1 : decode b_Trial_findOne 1 = .ok (.getfield 52, 3) := by decide +kernel
theorem d_Trial_findOne_4 : decode b_Trial_findOne 4 = .ok (.aload_n 0, 1) := by decide +kernel
theorem d_Trial_findOne_5 : decode b_Trial_findOne 5 = .ok (.getfield 83, 3) := by decide +kernel
theorem d_Trial_findOne_8 : decode b_Trial_findOne 8 = .ok (.invokevirtual 115, 3) := by decide +kernel
theorem d_Trial_findOne_11 : decode b_Trial_findOne 11 = .ok (.iconst 4, 1) := by decide +kernel
theorem d_Trial_findOne_12 : decode b_Trial_findOne 12 = .ok (.if_icmp .ne 15, 3) := by decide +kernel
theorem d_Trial_findOne_15 : decode b_Trial_findOne 15 = .ok (.aload_n 0, 1) := by decide +kernel
theorem d_Trial_findOne_16 : decode b_Trial_findOne 16 = .ok (.bipush 13, 2) := by decide +kernel
theorem d_Trial_findOne_18 : decode b_Trial_findOne 18 = .ok (.aload_n 0, 1) := by decide +kernel
theorem d_Trial_findOne_19 : decode b_Trial_findOne 19 = .ok (.getfield 83, 3) := by decide +kernel
theorem d_Trial_findOne_22 : decode b_Trial_findOne 22 = .ok (.invokevirtual 136, 3) := by decide +kernel
theorem d_Trial_findOne_25 : decode b_Trial_findOne 25 = .ok (.lconst 0, 1) := by decide +kernel
theorem d_Trial_findOne_26 : decode b_Trial_findOne 26 = .ok (.lreturn, 1) := by decide +kernel
theorem d_Trial_findOne_27 : decode b_Trial_findOne 27 = .ok (.aload_n 0, 1) := by decide +kernel
theorem d_Trial_findOne_28 : decode b_Trial_findOne 28 = .ok (.getfield 60, 3) := by decide +kernel
theorem d_Trial_findOne_31 : decode b_Trial_findOne 31 = .ok (.aload_n 0, 1) := by decide +kernel
theorem d_Trial_findOne_32 : decode b_Trial_findOne 32 = .ok (.getfield 52, 3) := by decide +kernel
theorem d_Trial_findOne_35 : decode b_Trial_findOne 35 = .ok (.aload_n 0, 1) := by decide +kernel
theorem d_Trial_findOne_36 : decode b_Trial_findOne 36 = .ok (.getfield 83, 3) := by decide +kernel
theorem d_Trial_findOne_39 : decode b_Trial_findOne 39 = .ok (.invokevirtual 165, 3) := by decide +kernel
theorem d_Trial_findOne_42 : decode b_Trial_findOne 42 = .ok (.ifCond .ne 15, 3) := by decide +kernel
theorem d_Trial_findOne_45 : decode b_Trial_findOne 45 = .ok (.aload_n 0, 1) := by decide +kernel
theorem d_Trial_findOne_46 : decode b_Trial_findOne 46 = .ok (.bipush 7, 2) := by decide +kernel
theorem d_Trial_findOne_48 : decode b_Trial_findOne 48 = .ok (.aload_n 0, 1) := by decide +kernel
theorem d_Trial_findOne_49 : decode b_Trial_findOne 49 = .ok (.getfield 83, 3) := by decide +kernel
theorem d_Trial_findOne_52 : decode b_Trial_findOne 52 = .ok (.invokevirtual 136, 3) := by decide +kernel
theorem d_Trial_findOne_55 : decode b_Trial_findOne 55 = .ok (.lconst 0, 1) := by decide +kernel
theorem d_Trial_findOne_56 : decode b_Trial_findOne 56 = .ok (.lreturn, 1) := by decide +kernel
theorem d_Trial_findOne_57 : decode b_Trial_findOne 57 = .ok (.aload_n 0, 1) := by decide +kernel
theorem d_Trial_findOne_58 : decode b_Trial_findOne 58 = .ok (.getfield 60, 3) := by decide +kernel
theorem d_Trial_findOne_61 : decode b_Trial_findOne 61 = .ok (.getfield 168, 3) := by decide +kernel
theorem d_Trial_findOne_64 : decode b_Trial_findOne 64 = .ok (.aload_n 0, 1) := by decide +kernel
theorem d_Trial_findOne_65 : decode b_Trial_findOne 65 = .ok (.getfield 40, 3) := by decide +kernel
theorem d_Trial_findOne_68 : decode b_Trial_findOne 68 = .ok (.iload_n 1, 1) := by decide +kernel
theorem d_Trial_findOne_69 : decode b_Trial_findOne 69 = .ok (.invokevirtual 171, 3) := by decide +kernel
theorem d_Trial_findOne_72 : decode b_Trial_findOne 72 = .ok (.land, 1) := by decide +kernel
theorem d_Trial_findOne_73 : decode b_Trial_findOne 73 = .ok (.lstore_n 2, 1) := by decide +kernel
theorem d_Trial_findOne_74 : decode b_Trial_findOne 74 = .ok (.lload_n 2, 1) := by decide +kernel
theorem d_Trial_findOne_75 : decode b_Trial_findOne 75 = .ok (.lconst 0, 1) := by decide +kernel
theorem d_Trial_findOne_76 : decode b_Trial_findOne 76 = .ok (.lcmp, 1) := by decide +kernel
theorem d_Trial_findOne_77 : decode b_Trial_findOne 77 = .ok (.ifCond .ne 35, 3) := by decide +kernel
theorem d_Trial_findOne_80 : decode b_Trial_findOne 80 = .ok (.aload_n 0, 1) := by decide +kernel
theorem d_Trial_findOne_81 : decode b_Trial_findOne 81 = .ok (.iload_n 1, 1) := by decide +kernel
theorem d_Trial_findOne_82 : decode b_Trial_findOne 82 = .ok (.iconst 3, 1) := by decide +kernel
theorem d_Trial_findOne_83 : decode b_Trial_findOne 83 = .ok (.if_icmp .ne 8, 3) := by decide +kernel
theorem d_Trial_findOne_86 : decode b_Trial_findOne 86 = .ok (.bipush 11, 2) := by decide +kernel
theorem d_Trial_findOne_88 : decode b_Trial_findOne 88 = .ok (.goto 15, 3) := by decide +kernel
theorem d_Trial_findOne_91 : decode b_Trial_findOne 91 = .ok (.iload_n 1, 1) := by decide +kernel
theorem d_Trial_findOne_92 : decode b_Trial_findOne 92 = .ok (.iconst 4, 1) := by decide +kernel
theorem d_Trial_findOne_93 : decode b_Trial_findOne 93 = .ok (.if_icmp .ne 8, 3) := by decide +kernel
theorem d_Trial_findOne_96 : decode b_Trial_findOne 96 = .ok (.bipush 12, 2) := by decide +kernel
theorem d_Trial_findOne_98 : decode b_Trial_findOne 98 = .ok (.goto 5, 3) := by decide +kernel
theorem d_Trial_findOne_101 : decode b_Trial_findOne 101 = .ok (.bipush 10, 2) := by decide +kernel
theorem d_Trial_findOne_103 : decode b_Trial_findOne 103 = .ok (.aload_n 0, 1) := by decide +kernel
theorem d_Trial_findOne_104 : decode b_Trial_findOne 104 = .ok (.getfield 83, 3) := by decide +kernel
theorem d_Trial_findOne_107 : decode b_Trial_findOne 107 = .ok (.invokevirtual 136, 3) := by decide +kernel
theorem d_Trial_findOne_110 : decode b_Trial_findOne 110 = .ok (.lconst 0, 1) := by decide +kernel
theorem d_Trial_findOne_111 : decode b_Trial_findOne 111 = .ok (.lreturn, 1) := by decide +kernel
theorem d_Trial_findOne_112 : decode b_Trial_findOne 112 = .ok (.lload_n 2, 1) := by decide +kernel
theorem d_Trial_findOne_113 : decode b_Trial_findOne 113 = .ok (.invokestatic 176, 3) := by decide +kernel
theorem d_Trial_findOne_116 : decode b_Trial_findOne 116 = .ok (.iconst 1, 1) := by decide +kernel
theorem d_Trial_findOne_117 : decode b_Trial_findOne 117 = .ok (.if_icmp .le 23, 3) := by decide +kernel
theorem d_Trial_findOne_120 : decode b_Trial_findOne 120 = .ok (.aload_n 0, 1) := by decide +kernel
theorem d_Trial_findOne_121 : decode b_Trial_findOne 121 = .ok (.getfield 30, 3) := by decide +kernel
theorem d_Trial_findOne_124 : decode b_Trial_findOne 124 = .ok (.lload_n 2, 1) := by decide +kernel
theorem d_Trial_findOne_125 : decode b_Trial_findOne 125 = .ok (.invokevirtual 182, 3) := by decide +kernel
theorem d_Trial_findOne_128 : decode b_Trial_findOne 128 = .ok (.aload_n 0, 1) := by decide +kernel
theorem d_Trial_findOne_129 : decode b_Trial_findOne 129 = .ok (.bipush 15, 2) := by decide +kernel
theorem d_Trial_findOne_131 : decode b_Trial_findOne 131 = .ok (.aload_n 0, 1) := by decide +kernel
theorem d_Trial_findOne_132 : decode b_Trial_findOne 132 = .ok (.getfield 83, 3) := by decide +kernel
theorem d_Trial_findOne_135 : decode b_Trial_findOne 135 = .ok (.invokevirtual 136, 3) := by decide +kernel
theorem d_Trial_findOne_138 : decode b_Trial_findOne 138 = .ok (.lconst 0, 1) := by decide +kernel
theorem d_Trial_findOne_139 : decode b_Trial_findOne 139 = .ok (.lreturn, 1) := by decide +kernel
theorem d_Trial_findOne_140 : decode b_Trial_findOne 140 = .ok (.aload_n 0, 1) := by decide +kernel
theorem d_Trial_findOne_141 : decode b_Trial_findOne 141 = .ok (.aload_n 0, 1) := by decide +kernel
theorem d_Trial_findOne_142 : decode b_Trial_findOne 142 = .ok (.getfield 60, 3) := by decide +kernel
theorem d_Trial_findOne_145 : decode b_Trial_findOne 145 = .ok (.getfield 186, 3) := by decide +kernel
theorem d_Trial_findOne_148 : decode b_Trial_findOne 148 = .ok (.putfield 83, 3) := by decide +kernel
theorem d_Trial_findOne_151 : decode b_Trial_findOne 151 = .ok (.lload_n 2, 1) := by decide +kernel
theorem d_Trial_findOne_152 : decode b_Trial_findOne 152 = .ok (.lreturn, 1) := by decide +kernel
theorem d_Trial_takeList_0 : decode b_Trial_takeList 0 = .ok (.aload_n 0, 1) := by decide +kernel
theorem d_Trial_takeList_1 : decode b_Trial_takeList 1 = .ok (.iload_n 1, 1) := by decide +kernel
theorem d_Trial_takeList_2 : decode b_Trial_takeList 2 = .ok (.invokevirtual 140, 3) := by decide +kernel
theorem d_Trial_takeList_5 : decode b_Trial_takeList 5 = .ok (.astore_n 2, 1) := by decide +kernel
theorem d_Trial_takeList_6 : decode b_Trial_takeList 6 = .ok (.iload_n 1, 1) := by decide +kernel
theorem d_Trial_takeList_7 : decode b_Trial_takeList 7 = .ok (.bipush 6, 2) := by decide +kernel
theorem d_Trial_takeList_9 : decode b_Trial_takeList 9 = .ok (.if_icmp .ne 7, 3) := by decide +kernel
theorem d_Trial_takeList_12 : decode b_Trial_takeList 12 = .ok (.iconst 2, 1) := by decide +kernel
theorem d_Trial_takeList_13 : decode b_Trial_takeList 13 = .ok (.goto 4, 3) := by decide +kernel
theorem d_Trial_takeList_16 : decode b_Trial_takeList 16 = .ok (.iconst 3, 1) := by decide +kernel
theorem d_Trial_takeList_17 : decode b_Trial_takeList 17 = .ok (.istore_n 3, 1) := by decide +kernel
theorem d_Trial_takeList_18 : decode b_Trial_takeList 18 = .ok (.iconst 1, 1) := by decide +kernel
theorem d_Trial_takeList_19 : decode b_Trial_takeList 19 = .ok (.istore 4, 2) := by decide +kernel
theorem d_Trial_takeList_21 : decode b_Trial_takeList 21 = .ok (.iconst 0, 1) := by decide +kernel
theorem d_Trial_takeList_22 : decode b_Trial_takeList 22 = .ok (.istore 5, 2) := by decide +kernel
theorem d_Trial_takeList_24 : decode b_Trial_takeList 24 = .ok (.iload 4, 2) := by decide +kernel
theorem d_Trial_takeList_26 : decode b_Trial_takeList 26 = .ok (.ifCond .eq 76, 3) := by decide +kernel
theorem d_Trial_takeList_29 : decode b_Trial_takeList 29 = .ok (.iload 5, 2) := by decide +kernel
theorem d_Trial_takeList_31 : decode b_Trial_takeList 31 = .ok (.bipush 60, 2) := by decide +kernel
theorem d_Trial_takeList_33 : decode b_Trial_takeList 33 = .ok (.if_icmp .ge 69, 3) := by decide +kernel
theorem d_Trial_takeList_36 : decode b_Trial_takeList 36 = .ok (.aload_n 2, 1) := by decide +kernel
theorem d_Trial_takeList_37 : decode b_Trial_takeList 37 = .ok (.dup, 1) := by decide +kernel
theorem d_Trial_takeList_38 : decode b_Trial_takeList 38 = .ok (.getfield 159, 3) := by decide +kernel
theorem d_Trial_takeList_41 : decode b_Trial_takeList 41 = .ok (.aload_n 0, 1) := by decide +kernel
theorem d_Trial_takeList_42 : decode b_Trial_takeList 42 = .ok (.iload_n 3, 1) := by decide +kernel
theorem d_Trial_takeList_43 : decode b_Trial_takeList 43 = .ok (.invokevirtual 155, 3) := by decide +kernel
theorem d_Trial_takeList_46 : decode b_Trial_takeList 46 = .ok (.lor, 1) := by decide +kernel
theorem d_Trial_takeList_47 : decode b_Trial_takeList 47 = .ok (.putfield 159, 3) := by decide +kernel
theorem d_Trial_takeList_50 : decode b_Trial_takeList 50 = .ok (.aload_n 0, 1) := by decide +kernel
theorem d_Trial_takeList_51 : decode b_Trial_takeList 51 = .ok (.getfield 76, 3) := by decide +kernel
theorem d_Trial_takeList_54 : decode b_Trial_takeList 54 = .ok (.ifCond .ne 24, 3) := by decide +kernel
theorem d_Trial_takeList_57 : decode b_Trial_takeList 57 = .ok (.aload_n 0, 1) := by decide +kernel
theorem d_Trial_takeList_58 : decode b_Trial_takeList 58 = .ok (.getfield 52, 3) := by decide +kernel
theorem d_Trial_takeList_61 : decode b_Trial_takeList 61 = .ok (.aload_n 0, 1) := by decide +kernel
theorem d_Trial_takeList_62 : decode b_Trial_takeList 62 = .ok (.getfield 83, 3) := by decide +kernel
theorem d_Trial_takeList_65 : decode b_Trial_takeList 65 = .ok (.invokevirtual 115, 3) := by decide +kernel
theorem d_Trial_takeList_68 : decode b_Trial_takeList 68 = .ok (.invokestatic 162, 3) := by decide +kernel
theorem d_Trial_takeList_71 : decode b_Trial_takeList 71 = .ok (.ifCond .eq 7, 3) := by decide +kernel
theorem d_Trial_takeList_74 : decode b_Trial_takeList 74 = .ok (.iconst 1, 1) := by decide +kernel
theorem d_Trial_takeList_75 : decode b_Trial_takeList 75 = .ok (.goto 4, 3) := by decide +kernel
theorem d_Trial_takeList_78 : decode b_Trial_takeList 78 = .ok (.iconst 0, 1) := by decide +kernel
theorem d_Trial_takeList_79 : decode b_Trial_takeList 79 = .ok (.istore 4, 2) := by decide +kernel
theorem d_Trial_takeList_81 : decode b_Trial_takeList 81 = .ok (.iload 4, 2) := by decide +kernel
theorem d_Trial_takeList_83 : decode b_Trial_takeList 83 = .ok (.ifCond .eq 13, 3) := by decide +kernel
theorem d_Trial_takeList_86 : decode b_Trial_takeList 86 = .ok (.aload_n 0, 1) := by decide +kernel
theorem d_Trial_takeList_87 : decode b_Trial_takeList 87 = .ok (.dup, 1) := by decide +kernel
theorem d_Trial_takeList_88 : decode b_Trial_takeList 88 = .ok (.getfield 83, 3) := by decide +kernel
theorem d_Trial_takeList_91 : decode b_Trial_takeList 91 = .ok (.iconst 1, 1) := by decide +kernel
theorem d_Trial_takeList_92 : decode b_Trial_takeList 92 = .ok (.iadd, 1) := by decide +kernel
theorem d_Trial_takeList_93 : decode b_Trial_takeList 93 = .ok (.putfield 83, 3) := by decide +kernel
theorem d_Trial_takeList_96 : decode b_Trial_takeList 96 = .ok (.iinc 5 1, 3) := by decide +kernel
theorem d_Trial_takeList_99 : decode b_Trial_takeList 99 = .ok (.goto (-75), 3) := by decide +kernel
theorem d_Trial_takeList_102 : decode b_Trial_takeList 102 = .ok (.return_, 1) := by decide +kernel
theorem d_Things_allFor_0 : decode b_Things_allFor 0 = .ok (.iload_n 1, 1) := by decide +kernel
theorem d_Things_allFor_1 : decode b_Things_allFor 1 = .ok (.bipush 6, 2) := by decide +kernel
theorem d_Things_allFor_3 : decode b_Things_allFor 3 = .ok (.if_icmp .ne 19, 3) := by decide +kernel
theorem d_Things_allFor_6 : decode b_Things_allFor 6 = .ok (.aload_n 0, 1) := by decide +kernel
theorem d_Things_allFor_7 : decode b_Things_allFor 7 = .ok (.getfield 41, 3) := by decide +kernel
theorem d_Things_allFor_10 : decode b_Things_allFor 10 = .ok (.aload_n 0, 1) := by decide +kernel
theorem d_Things_allFor_11 : decode b_Things_allFor 11 = .ok (.getfield 45, 3) := by decide +kernel
theorem d_Things_allFor_14 : decode b_Things_allFor 14 = .ok (.ldc2_w 62, 3) := by decide +kernel
theorem d_Things_allFor_17 : decode b_Things_allFor 17 = .ok (.lxor, 1) := by decide +kernel
theorem d_Things_allFor_18 : decode b_Things_allFor 18 = .ok (.land, 1) := by decide +kernel
theorem d_Things_allFor_19 : decode b_Things_allFor 19 = .ok (.goto 16, 3) := by decide +kernel
theorem d_Things_allFor_22 : decode b_Things_allFor 22 = .ok (.aload_n 0, 1) := by decide +kernel
theorem d_Things_allFor_23 : decode b_Things_allFor 23 = .ok (.getfield 45, 3) := by decide +kernel
theorem d_Things_allFor_26 : decode b_Things_allFor 26 = .ok (.aload_n 0, 1) := by decide +kernel
theorem d_Things_allFor_27 : decode b_Things_allFor 27 = .ok (.getfield 48, 3) := by decide +kernel
theorem d_Things_allFor_30 : decode b_Things_allFor 30 = .ok (.ldc2_w 62, 3) := by decide +kernel
theorem d_Things_allFor_33 : decode b_Things_allFor 33 = .ok (.lxor, 1) := by decide +kernel
theorem d_Things_allFor_34 : decode b_Things_allFor 34 = .ok (.land, 1) := by decide +kernel
theorem d_Things_allFor_35 : decode b_Things_allFor 35 = .ok (.lstore_n 2, 1) := by decide +kernel
theorem d_Things_allFor_36 : decode b_Things_allFor 36 = .ok (.lload_n 2, 1) := by decide +kernel
theorem d_Things_allFor_37 : decode b_Things_allFor 37 = .ok (.aload_n 0, 1) := by decide +kernel
theorem d_Things_allFor_38 : decode b_Things_allFor 38 = .ok (.getfield 51, 3) := by decide +kernel
theorem d_Things_allFor_41 : decode b_Things_allFor 41 = .ok (.ldc2_w 62, 3) := by decide +kernel
theorem d_Things_allFor_44 : decode b_Things_allFor 44 = .ok (.lxor, 1) := by decide +kernel
theorem d_Things_allFor_45 : decode b_Things_allFor 45 = .ok (.land, 1) := by decide +kernel
theorem d_Things_allFor_46 : decode b_Things_allFor 46 = .ok (.lreturn, 1) := by decide +kernel
theorem d_Trial_takeAll_0 : decode b_Trial_takeAll 0 = .ok (.aload_n 0, 1) := by decide +kernel
theorem d_Trial_takeAll_1 : decode b_Trial_takeAll 1 = .ok (.iload_n 1, 1) := by decide +kernel
theorem d_Trial_takeAll_2 : decode b_Trial_takeAll 2 = .ok (.invokevirtual 140, 3) := by decide +kernel
theorem d_Trial_takeAll_5 : decode b_Trial_takeAll 5 = .ok (.astore_n 2, 1) := by decide +kernel
theorem d_Trial_takeAll_6 : decode b_Trial_takeAll 6 = .ok (.aload_n 2, 1) := by decide +kernel
theorem d_Trial_takeAll_7 : decode b_Trial_takeAll 7 = .ok (.aload_n 0, 1) := by decide +kernel
theorem d_Trial_takeAll_8 : decode b_Trial_takeAll 8 = .ok (.getfield 40, 3) := by decide +kernel
theorem d_Trial_takeAll_11 : decode b_Trial_takeAll 11 = .ok (.iload_n 1, 1) := by decide +kernel
theorem d_Trial_takeAll_12 : decode b_Trial_takeAll 12 = .ok (.invokevirtual 189, 3) := by decide +kernel
theorem d_Trial_takeAll_15 : decode b_Trial_takeAll 15 = .ok (.putfield 159, 3) := by decide +kernel
theorem d_Trial_takeAll_18 : decode b_Trial_takeAll 18 = .ok (.aload_n 0, 1) := by decide +kernel
theorem d_Trial_takeAll_19 : decode b_Trial_takeAll 19 = .ok (.dup, 1) := by decide +kernel
theorem d_Trial_takeAll_20 : decode b_Trial_takeAll 20 = .ok (.getfield 83, 3) := by decide +kernel
theorem d_Trial_takeAll_23 : decode b_Trial_takeAll 23 = .ok (.iconst 1, 1) := by decide +kernel
theorem d_Trial_takeAll_24 : decode b_Trial_takeAll 24 = .ok (.iadd, 1) := by decide +kernel
theorem d_Trial_takeAll_25 : decode b_Trial_takeAll 25 = .ok (.putfield 83, 3) := by decide +kernel
theorem d_Trial_takeAll_28 : decode b_Trial_takeAll 28 = .ok (.aload_n 0, 1) := by decide +kernel
theorem d_Trial_takeAll_29 : decode b_Trial_takeAll 29 = .ok (.getfield 52, 3) := by decide +kernel
theorem d_Trial_takeAll_32 : decode b_Trial_takeAll 32 = .ok (.aload_n 0, 1) := by decide +kernel
theorem d_Trial_takeAll_33 : decode b_Trial_takeAll 33 = .ok (.getfield 83, 3) := by decide +kernel
theorem d_Trial_takeAll_36 : decode b_Trial_takeAll 36 = .ok (.invokevirtual 115, 3) := by decide +kernel
theorem d_Trial_takeAll_39 : decode b_Trial_takeAll 39 = .ok (.iconst 3, 1) := by decide +kernel
theorem d_Trial_takeAll_40 : decode b_Trial_takeAll 40 = .ok (.if_icmp .ne 7, 3) := by decide +kernel
theorem d_Trial_takeAll_43 : decode b_Trial_takeAll 43 = .ok (.iconst 1, 1) := by decide +kernel
theorem d_Trial_takeAll_44 : decode b_Trial_takeAll 44 = .ok (.goto 4, 3) := by decide +kernel
theorem d_Trial_takeAll_47 : decode b_Trial_takeAll 47 = .ok (.iconst 0, 1) := by decide +kernel
theorem d_Trial_takeAll_48 : decode b_Trial_takeAll 48 = .ok (.istore_n 3, 1) := by decide +kernel
theorem d_Trial_takeAll_49 : decode b_Trial_takeAll 49 = .ok (.iconst 0, 1) := by decide +kernel
theorem d_Trial_takeAll_50 : decode b_Trial_takeAll 50 = .ok (.istore 4, 2) := by decide +kernel
theorem d_Trial_takeAll_52 : decode b_Trial_takeAll 52 = .ok (.iload_n 3, 1) := by decide +kernel
theorem d_Trial_takeAll_53 : decode b_Trial_takeAll 53 = .ok (.ifCond .eq 101, 3) := by decide +kernel
theorem d_Trial_takeAll_56 : decode b_Trial_takeAll 56 = .ok (.iload 4, 2) := by decide +kernel
theorem d_Trial_takeAll_58 : decode b_Trial_takeAll 58 = .ok (.bipush 60, 2) := by decide +kernel
theorem d_Trial_takeAll_60 : decode b_Trial_takeAll 60 = .ok (.if_icmp .ge 94, 3) := by decide +kernel
theorem d_Trial_takeAll_63 : decode b_Trial_takeAll 63 = .ok (.aload_n 0, 1) := by decide +kernel
theorem d_Trial_takeAll_64 : decode b_Trial_takeAll 64 = .ok (.dup, 1) := by decide +kernel
theorem d_Trial_takeAll_65 : decode b_Trial_takeAll 65 = .ok (.getfield 83, 3) := by decide +kernel
theorem d_Trial_takeAll_68 : decode b_Trial_takeAll 68 = .ok (.iconst 1, 1) := by decide +kernel
theorem d_Trial_takeAll_69 : decode b_Trial_takeAll 69 = .ok (.iadd, 1) := by decide +kernel
theorem d_Trial_takeAll_70 : decode b_Trial_takeAll 70 = .ok (.putfield 83, 3) := by decide +kernel
theorem d_Trial_takeAll_73 : decode b_Trial_takeAll 73 = .ok (.aload_n 0, 1) := by decide +kernel
theorem d_Trial_takeAll_74 : decode b_Trial_takeAll 74 = .ok (.getfield 60, 3) := by decide +kernel
theorem d_Trial_takeAll_77 : decode b_Trial_takeAll 77 = .ok (.aload_n 0, 1) := by decide +kernel
theorem d_Trial_takeAll_78 : decode b_Trial_takeAll 78 = .ok (.getfield 52, 3) := by decide +kernel
theorem d_Trial_takeAll_81 : decode b_Trial_takeAll 81 = .ok (.aload_n 0, 1) := by decide +kernel
theorem d_Trial_takeAll_82 : decode b_Trial_takeAll 82 = .ok (.getfield 83, 3) := by decide +kernel
theorem d_Trial_takeAll_85 : decode b_Trial_takeAll 85 = .ok (.invokevirtual 165, 3) := by decide +kernel
theorem d_Trial_takeAll_88 : decode b_Trial_takeAll 88 = .ok (.ifCond .ne 14, 3) := by decide +kernel
theorem d_Trial_takeAll_91 : decode b_Trial_takeAll 91 = .ok (.aload_n 0, 1) := by decide +kernel
theorem d_Trial_takeAll_92 : decode b_Trial_takeAll 92 = .ok (.bipush 7, 2) := by decide +kernel
theorem d_Trial_takeAll_94 : decode b_Trial_takeAll 94 = .ok (.aload_n 0, 1) := by decide +kernel
theorem d_Trial_takeAll_95 : decode b_Trial_takeAll 95 = .ok (.getfield 83, 3) := by decide +kernel
theorem d_Trial_takeAll_98 : decode b_Trial_takeAll 98 = .ok (.invokevirtual 136, 3) := by decide +kernel
theorem d_Trial_takeAll_101 : decode b_Trial_takeAll 101 = .ok (.return_, 1) := by decide +kernel
theorem d_Trial_takeAll_102 : decode b_Trial_takeAll 102 = .ok (.aload_n 2, 1) := by decide +kernel
theorem d_Trial_takeAll_103 : decode b_Trial_takeAll 103 = .ok (.dup, 1) := by decide +kernel
theorem d_Trial_takeAll_104 : decode b_Trial_takeAll 104 = .ok (.getfield 159, 3) := by decide +kernel
theorem d_Trial_takeAll_107 : decode b_Trial_takeAll 107 = .ok (.aload_n 0, 1) := by decide +kernel
theorem d_Trial_takeAll_108 : decode b_Trial_takeAll 108 = .ok (.getfield 60, 3) := by decide +kernel
theorem d_Trial_takeAll_111 : decode b_Trial_takeAll 111 = .ok (.getfield 168, 3) := by decide +kernel
theorem d_Trial_takeAll_114 : decode b_Trial_takeAll 114 = .ok (.ldc2_w 192, 3) := by decide +kernel
theorem d_Trial_takeAll_117 : decode b_Trial_takeAll 117 = .ok (.lxor, 1) := by decide +kernel
theorem d_Trial_takeAll_118 : decode b_Trial_takeAll 118 = .ok (.land, 1) := by decide +kernel
theorem d_Trial_takeAll_119 : decode b_Trial_takeAll 119 = .ok (.putfield 159, 3) := by decide +kernel
theorem d_Trial_takeAll_122 : decode b_Trial_takeAll 122 = .ok (.aload_n 0, 1) := by decide +kernel
theorem d_Trial_takeAll_123 : decode b_Trial_takeAll 123 = .ok (.aload_n 0, 1) := by decide +kernel
theorem d_Trial_takeAll_124 : decode b_Trial_takeAll 124 = .ok (.getfield 60, 3) := by decide +kernel
theorem d_Trial_takeAll_127 : decode b_Trial_takeAll 127 = .ok (.getfield 186, 3) := by decide +kernel
theorem d_Trial_takeAll_130 : decode b_Trial_takeAll 130 = .ok (.putfield 83, 3) := by decide +kernel
theorem d_Trial_takeAll_133 : decode b_Trial_takeAll 133 = .ok (.aload_n 0, 1) := by decide +kernel
theorem d_Trial_takeAll_134 : decode b_Trial_takeAll 134 = .ok (.getfield 52, 3) := by decide +kernel
theorem d_Trial_takeAll_137 : decode b_Trial_takeAll 137 = .ok (.aload_n 0, 1) := by decide +kernel
theorem d_Trial_takeAll_138 : decode b_Trial_takeAll 138 = .ok (.getfield 83, 3) := by decide +kernel
theorem d_Trial_takeAll_141 : decode b_Trial_takeAll 141 = .ok (.invokevirtual 115, 3) := by decide +kernel
theorem d_Trial_takeAll_144 : decode b_Trial_takeAll 144 = .ok (.invokestatic 162, 3) := by decide +kernel
theorem d_Trial_takeAll_147 : decode b_Trial_takeAll 147 = .ok (.istore_n 3, 1) := by decide +kernel
theorem d_Trial_takeAll_148 : decode b_Trial_takeAll 148 = .ok (.iinc 4 1, 3) := by decide +kernel
theorem d_Trial_takeAll_151 : decode b_Trial_takeAll 151 = .ok (.goto (-99), 3) := by decide +kernel
theorem d_Trial_takeAll_154 : decode b_Trial_takeAll 154 = .ok (.aload_n 2, 1) := by decide +kernel
theorem d_Trial_takeAll_155 : decode b_Trial_takeAll 155 = .ok (.getfield 159, 3) := by decide +kernel
theorem d_Trial_takeAll_158 : decode b_Trial_takeAll 158 = .ok (.lconst 0, 1) := by decide +kernel
theorem d_Trial_takeAll_159 : decode b_Trial_takeAll 159 = .ok (.lcmp, 1) := by decide +kernel
theorem d_Trial_takeAll_160 : decode b_Trial_takeAll 160 = .ok (.ifCond .ne 13, 3) := by decide +kernel
theorem d_Trial_takeAll_163 : decode b_Trial_takeAll 163 = .ok (.aload_n 0, 1) := by decide +kernel
theorem d_Trial_takeAll_164 : decode b_Trial_takeAll 164 = .ok (.bipush 14, 2) := by decide +kernel
theorem d_Trial_takeAll_166 : decode b_Trial_takeAll 166 = .ok (.aload_n 2, 1) := by decide +kernel
theorem d_Trial_takeAll_167 : decode b_Trial_takeAll 167 = .ok (.getfield 131, 3) := by decide +kernel
theorem d_Trial_takeAll_170 : decode b_Trial_takeAll 170 = .ok (.invokevirtual 136, 3) := by decide +kernel
theorem d_Trial_takeAll_173 : decode b_Trial_takeAll 173 = .ok (.return_, 1) := by decide +kernel
theorem d_Trial_takeOne_0 : decode b_Trial_takeOne 0 = .ok (.aload_n 0, 1) := by decide +kernel
theorem d_Trial_takeOne_1 : decode b_Trial_takeOne 1 = .ok (.iload_n 1, 1) := by decide +kernel
theorem d_Trial_takeOne_2 : decode b_Trial_takeOne 2 = .ok (.invokevirtual 140, 3) := by decide +kernel
theorem d_Trial_takeOne_5 : decode b_Trial_takeOne 5 = .ok (.astore_n 2, 1) := by decide +kernel
theorem d_Trial_takeOne_6 : decode b_Trial_takeOne 6 = .ok (.aload_n 2, 1) := by decide +kernel
theorem d_Trial_takeOne_7 : decode b_Trial_takeOne 7 = .ok (.aload_n 0, 1) := by decide +kernel
theorem d_Trial_takeOne_8 : decode b_Trial_takeOne 8 = .ok (.iload_n 1, 1) := by decide +kernel
theorem d_Trial_takeOne_9 : decode b_Trial_takeOne 9 = .ok (.invokevirtual 155, 3) := by decide +kernel
theorem d_Trial_takeOne_12 : decode b_Trial_takeOne 12 = .ok (.putfield 159, 3) := by decide +kernel
theorem d_Trial_takeOne_15 : decode b_Trial_takeOne 15 = .ok (.aload_n 0, 1) := by decide +kernel
theorem d_Trial_takeOne_16 : decode b_Trial_takeOne 16 = .ok (.getfield 76, 3) := by decide +kernel
theorem d_Trial_takeOne_19 : decode b_Trial_takeOne 19 = .ok (.ifCond .ne 30, 3) := by decide +kernel
theorem d_Trial_takeOne_22 : decode b_Trial_takeOne 22 = .ok (.aload_n 0, 1) := by decide +kernel
theorem d_Trial_takeOne_23 : decode b_Trial_takeOne 23 = .ok (.getfield 52, 3) := by decide +kernel
theorem d_Trial_takeOne_26 : decode b_Trial_takeOne 26 = .ok (.aload_n 0, 1) := by decide +kernel
theorem d_Trial_takeOne_27 : decode b_Trial_takeOne 27 = .ok (.getfield 83, 3) := by decide +kernel
theorem d_Trial_takeOne_30 : decode b_Trial_takeOne 30 = .ok (.invokevirtual 115, 3) := by decide +kernel
theorem d_Trial_takeOne_33 : decode b_Trial_takeOne 33 = .ok (.invokestatic 162, 3) := by decide +kernel
theorem d_Trial_takeOne_36 : decode b_Trial_takeOne 36 = .ok (.ifCond .eq 13, 3) := by decide +kernel
theorem d_Trial_takeOne_39 : decode b_Trial_takeOne 39 = .ok (.aload_n 0, 1) := by decide +kernel
theorem d_Trial_takeOne_40 : decode b_Trial_takeOne 40 = .ok (.bipush 13, 2) := by decide +kernel
theorem d_Trial_takeOne_42 : decode b_Trial_takeOne 42 = .ok (.aload_n 0, 1) := by decide +kernel
theorem d_Trial_takeOne_43 : decode b_Trial_takeOne 43 = .ok (.getfield 83, 3) := by decide +kernel
theorem d_Trial_takeOne_46 : decode b_Trial_takeOne 46 = .ok (.invokevirtual 136, 3) := by decide +kernel
theorem d_Trial_takeOne_49 : decode b_Trial_takeOne 49 = .ok (.return_, 1) := by decide +kernel
theorem d_Lines_ofAt_0 : decode b_Lines_ofAt 0 = .ok (.aload_n 0, 1) := by decide +kernel
theorem d_Lines_ofAt_1 : decode b_Lines_ofAt 1 = .ok (.iload_n 1, 1) := by decide +kernel
theorem d_Lines_ofAt_2 : decode b_Lines_ofAt 2 = .ok (.invokevirtual 39, 3) := by decide +kernel
theorem d_Lines_ofAt_5 : decode b_Lines_ofAt 5 = .ok (.ifCond .eq 31, 3) := by decide +kernel
theorem d_Lines_ofAt_8 : decode b_Lines_ofAt 8 = .ok (.iload_n 2, 1) := by decide +kernel
theorem d_Lines_ofAt_9 : decode b_Lines_ofAt 9 = .ok (.ifCond .lt 27, 3) := by decide +kernel
theorem d_Lines_ofAt_12 : decode b_Lines_ofAt 12 = .ok (.iload_n 2, 1) := by decide +kernel
theorem d_Lines_ofAt_13 : decode b_Lines_ofAt 13 = .ok (.aload_n 0, 1) := by decide +kernel
theorem d_Lines_ofAt_14 : decode b_Lines_ofAt 14 = .ok (.getfield 22, 3) := by decide +kernel
theorem d_Lines_ofAt_17 : decode b_Lines_ofAt 17 = .ok (.iload_n 1, 1) := by decide +kernel
theorem d_Lines_ofAt_18 : decode b_Lines_ofAt 18 = .ok (.iaload, 1) := by decide +kernel
theorem d_Lines_ofAt_19 : decode b_Lines_ofAt 19 = .ok (.if_icmp .ge 17, 3) := by decide +kernel
theorem d_Lines_ofAt_22 : decode b_Lines_ofAt 22 = .ok (.aload_n 0, 1) := by decide +kernel
theorem d_Lines_ofAt_23 : decode b_Lines_ofAt 23 = .ok (.getfield 28, 3) := by decide +kernel
theorem d_Lines_ofAt_26 : decode b_Lines_ofAt 26 = .ok (.iload_n 1, 1) := by decide +kernel
theorem d_Lines_ofAt_27 : decode b_Lines_ofAt 27 = .ok (.bipush 8, 2) := by decide +kernel
theorem d_Lines_ofAt_29 : decode b_Lines_ofAt 29 = .ok (.imul, 1) := by decide +kernel
theorem d_Lines_ofAt_30 : decode b_Lines_ofAt 30 = .ok (.iload_n 2, 1) := by decide +kernel
theorem d_Lines_ofAt_31 : decode b_Lines_ofAt 31 = .ok (.iadd, 1) := by decide +kernel
theorem d_Lines_ofAt_32 : decode b_Lines_ofAt 32 = .ok (.iaload, 1) := by decide +kernel
theorem d_Lines_ofAt_33 : decode b_Lines_ofAt 33 = .ok (.goto 4, 3) := by decide +kernel
theorem d_Lines_ofAt_36 : decode b_Lines_ofAt 36 = .ok (.iconst (-1), 1) := by decide +kernel
theorem d_Lines_ofAt_37 : decode b_Lines_ofAt 37 = .ok (.ireturn, 1) := by decide +kernel
theorem d_Trial_takeCustom_0 : decode b_Trial_takeCustom 0 = .ok (.aload_n 0, 1) := by decide +kernel
theorem d_Trial_takeCustom_1 : decode b_Trial_takeCustom 1 = .ok (.getfield 48, 3) := by decide +kernel
theorem d_Trial_takeCustom_4 : decode b_Trial_takeCustom 4 = .ok (.iload_n 1, 1) := by decide +kernel
theorem d_Trial_takeCustom_5 : decode b_Trial_takeCustom 5 = .ok (.aload_n 0, 1) := by decide +kernel
theorem d_Trial_takeCustom_6 : decode b_Trial_takeCustom 6 = .ok (.getfield 52, 3) := by decide +kernel
theorem d_Trial_takeCustom_9 : decode b_Trial_takeCustom 9 = .ok (.aload_n 0, 1) := by decide +kernel
theorem d_Trial_takeCustom_10 : decode b_Trial_takeCustom 10 = .ok (.getfield 83, 3) := by decide +kernel
theorem d_Trial_takeCustom_13 : decode b_Trial_takeCustom 13 = .ok (.invokevirtual 115, 3) := by decide +kernel
theorem d_Trial_takeCustom_16 : decode b_Trial_takeCustom 16 = .ok (.invokevirtual 150, 3) := by decide +kernel
theorem d_Trial_takeCustom_19 : decode b_Trial_takeCustom 19 = .ok (.istore_n 2, 1) := by decide +kernel
theorem d_Trial_takeCustom_20 : decode b_Trial_takeCustom 20 = .ok (.iload_n 2, 1) := by decide +kernel
theorem d_Trial_takeCustom_21 : decode b_Trial_takeCustom 21 = .ok (.iconst (-1), 1) := by decide +kernel
theorem d_Trial_takeCustom_22 : decode b_Trial_takeCustom 22 = .ok (.if_icmp .ne 14, 3) := by decide +kernel
theorem d_Trial_takeCustom_25 : decode b_Trial_takeCustom 25 = .ok (.aload_n 0, 1) := by decide +kernel
theorem d_Trial_takeCustom_26 : decode b_Trial_takeCustom 26 = .ok (.bipush 9, 2) := by decide +kernel
theorem d_Trial_takeCustom_28 : decode b_Trial_takeCustom 28 = .ok (.aload_n 0, 1) := by decide +kernel
theorem d_Trial_takeCustom_29 : decode b_Trial_takeCustom 29 = .ok (.getfield 83, 3) := by decide +kernel
theorem d_Trial_takeCustom_32 : decode b_Trial_takeCustom 32 = .ok (.invokevirtual 136, 3) := by decide +kernel
theorem d_Trial_takeCustom_35 : decode b_Trial_takeCustom 35 = .ok (.return_, 1) := by decide +kernel
theorem d_Trial_takeCustom_36 : decode b_Trial_takeCustom 36 = .ok (.aload_n 0, 1) := by decide +kernel
theorem d_Trial_takeCustom_37 : decode b_Trial_takeCustom 37 = .ok (.bipush 11, 2) := by decide +kernel
theorem d_Trial_takeCustom_39 : decode b_Trial_takeCustom 39 = .ok (.invokevirtual 140, 3) := by decide +kernel
theorem d_Trial_takeCustom_42 : decode b_Trial_takeCustom 42 = .ok (.getfield 144, 3) := by decide +kernel
theorem d_Trial_takeCustom_45 : decode b_Trial_takeCustom 45 = .ok (.iload_n 2, 1) := by decide +kernel
theorem d_Trial_takeCustom_46 : decode b_Trial_takeCustom 46 = .ok (.invokevirtual 147, 3) := by decide +kernel
theorem d_Trial_takeCustom_49 : decode b_Trial_takeCustom 49 = .ok (.aload_n 0, 1) := by decide +kernel
theorem d_Trial_takeCustom_50 : decode b_Trial_takeCustom 50 = .ok (.dup, 1) := by decide +kernel
theorem d_Trial_takeCustom_51 : decode b_Trial_takeCustom 51 = .ok (.getfield 83, 3) := by decide +kernel
theorem d_Trial_takeCustom_54 : decode b_Trial_takeCustom 54 = .ok (.iconst 1, 1) := by decide +kernel
theorem d_Trial_takeCustom_55 : decode b_Trial_takeCustom 55 = .ok (.iadd, 1) := by decide +kernel
theorem d_Trial_takeCustom_56 : decode b_Trial_takeCustom 56 = .ok (.putfield 83, 3) := by decide +kernel
theorem d_Trial_takeCustom_59 : decode b_Trial_takeCustom 59 = .ok (.return_, 1) := by decide +kernel
theorem d_Trial_takeNumber_0 : decode b_Trial_takeNumber 0 = .ok (.aload_n 0, 1) := by decide +kernel
theorem d_Trial_takeNumber_1 : decode b_Trial_takeNumber 1 = .ok (.getfield 52, 3) := by decide +kernel
theorem d_Trial_takeNumber_4 : decode b_Trial_takeNumber 4 = .ok (.aload_n 0, 1) := by decide +kernel
theorem d_Trial_takeNumber_5 : decode b_Trial_takeNumber 5 = .ok (.getfield 83, 3) := by decide +kernel
theorem d_Trial_takeNumber_8 : decode b_Trial_takeNumber 8 = .ok (.invokevirtual 115, 3) := by decide +kernel
theorem d_Trial_takeNumber_11 : decode b_Trial_takeNumber 11 = .ok (.istore_n 1, 1) := by decide +kernel
theorem d_Trial_takeNumber_12 : decode b_Trial_takeNumber 12 = .ok (.iload_n 1, 1) := by decide +kernel
theorem d_Trial_takeNumber_13 : decode b_Trial_takeNumber 13 = .ok (.sipush 10000, 3) := by decide +kernel
theorem d_Trial_takeNumber_16 : decode b_Trial_takeNumber 16 = .ok (.if_icmp .lt 10, 3) := by decide +kernel
theorem d_Trial_takeNumber_19 : decode b_Trial_takeNumber 19 = .ok (.iload_n 1, 1) := by decide +kernel
theorem d_Trial_takeNumber_20 : decode b_Trial_takeNumber 20 = .ok (.sipush 19999, 3) := by decide +kernel
theorem d_Trial_takeNumber_23 : decode b_Trial_takeNumber 23 = .ok (.if_icmp .le 14, 3) := by decide +kernel
theorem d_Trial_takeNumber_26 : decode b_Trial_takeNumber 26 = .ok (.aload_n 0, 1) := by decide +kernel
theorem d_Trial_takeNumber_27 : decode b_Trial_takeNumber 27 = .ok (.bipush 8, 2) := by decide +kernel
theorem d_Trial_takeNumber_29 : decode b_Trial_takeNumber 29 = .ok (.aload_n 0, 1) := by decide +kernel
theorem d_Trial_takeNumber_30 : decode b_Trial_takeNumber 30 = .ok (.getfield 83, 3) := by decide +kernel
theorem d_Trial_takeNumber_33 : decode b_Trial_takeNumber 33 = .ok (.invokevirtual 136, 3) := by decide +kernel
theorem d_Trial_takeNumber_36 : decode b_Trial_takeNumber 36 = .ok (.return_, 1) := by decide +kernel
theorem d_Trial_takeNumber_37 : decode b_Trial_takeNumber 37 = .ok (.aload_n 0, 1) := by decide +kernel
theorem d_Trial_takeNumber_38 : decode b_Trial_takeNumber 38 = .ok (.bipush 10, 2) := by decide +kernel
theorem d_Trial_takeNumber_40 : decode b_Trial_takeNumber 40 = .ok (.invokevirtual 140, 3) := by decide +kernel
theorem d_Trial_takeNumber_43 : decode b_Trial_takeNumber 43 = .ok (.getfield 144, 3) := by decide +kernel
theorem d_Trial_takeNumber_46 : decode b_Trial_takeNumber 46 = .ok (.iload_n 1, 1) := by decide +kernel
theorem d_Trial_takeNumber_47 : decode b_Trial_takeNumber 47 = .ok (.sipush 10000, 3) := by decide +kernel
theorem d_Trial_takeNumber_50 : decode b_Trial_takeNumber 50 = .ok (.isub, 1) := by decide +kernel
theorem d_Trial_takeNumber_51 : decode b_Trial_takeNumber 51 = .ok (.invokevirtual 147, 3) := by decide +kernel
theorem d_Trial_takeNumber_54 : decode b_Trial_takeNumber 54 = .ok (.aload_n 0, 1) := by decide +kernel
theorem d_Trial_takeNumber_55 : decode b_Trial_takeNumber 55 = .ok (.dup, 1) := by decide +kernel
theorem d_Trial_takeNumber_56 : decode b_Trial_takeNumber 56 = .ok (.getfield 83, 3) := by decide +kernel
theorem d_Trial_takeNumber_59 : decode b_Trial_takeNumber 59 = .ok (.iconst 1, 1) := by decide +kernel
theorem d_Trial_takeNumber_60 : decode b_Trial_takeNumber 60 = .ok (.iadd, 1) := by decide +kernel
theorem d_Trial_takeNumber_61 : decode b_Trial_takeNumber 61 = .ok (.putfield 83, 3) := by decide +kernel
theorem d_Trial_takeNumber_64 : decode b_Trial_takeNumber 64 = .ok (.return_, 1) := by decide +kernel
theorem d_Lines_takes_0 : decode b_Lines_takes 0 = .ok (.aload_n 0, 1) := by decide +kernel
theorem d_Lines_takes_1 : decode b_Lines_takes 1 = .ok (.iload_n 1, 1) := by decide +kernel
theorem d_Lines_takes_2 : decode b_Lines_takes 2 = .ok (.iload_n 2, 1) := by decide +kernel
theorem d_Lines_takes_3 : decode b_Lines_takes 3 = .ok (.invokevirtual 47, 3) := by decide +kernel
theorem d_Lines_takes_6 : decode b_Lines_takes 6 = .ok (.ifCond .eq 5, 3) := by decide +kernel
theorem d_Lines_takes_9 : decode b_Lines_takes 9 = .ok (.iconst 0, 1) := by decide +kernel
theorem d_Lines_takes_10 : decode b_Lines_takes 10 = .ok (.ireturn, 1) := by decide +kernel
theorem d_Lines_takes_11 : decode b_Lines_takes 11 = .ok (.iconst 1, 1) := by decide +kernel
theorem d_Lines_takes_12 : decode b_Lines_takes 12 = .ok (.istore 4, 2) := by decide +kernel
theorem d_Lines_takes_14 : decode b_Lines_takes 14 = .ok (.iload_n 2, 1) := by decide +kernel
theorem d_Lines_takes_15 : decode b_Lines_takes 15 = .ok (.istore 5, 2) := by decide +kernel
theorem d_Lines_takes_17 : decode b_Lines_takes 17 = .ok (.iload 4, 2) := by decide +kernel
theorem d_Lines_takes_19 : decode b_Lines_takes 19 = .ok (.ifCond .eq 52, 3) := by decide +kernel
theorem d_Lines_takes_22 : decode b_Lines_takes 22 = .ok (.iload 5, 2) := by decide +kernel
theorem d_Lines_takes_24 : decode b_Lines_takes 24 = .ok (.aload_n 0, 1) := by decide +kernel
theorem d_Lines_takes_25 : decode b_Lines_takes 25 = .ok (.iload_n 1, 1) := by decide +kernel
theorem d_Lines_takes_26 : decode b_Lines_takes 26 = .ok (.invokevirtual 43, 3) := by decide +kernel
theorem d_Lines_takes_29 : decode b_Lines_takes 29 = .ok (.if_icmp .ge 42, 3) := by decide +kernel
theorem d_Lines_takes_32 : decode b_Lines_takes 32 = .ok (.aload_n 0, 1) := by decide +kernel
theorem d_Lines_takes_33 : decode b_Lines_takes 33 = .ok (.iload_n 1, 1) := by decide +kernel
theorem d_Lines_takes_34 : decode b_Lines_takes 34 = .ok (.iload 5, 2) := by decide +kernel
theorem d_Lines_takes_36 : decode b_Lines_takes 36 = .ok (.invokevirtual 57, 3) := by decide +kernel
theorem d_Lines_takes_39 : decode b_Lines_takes 39 = .ok (.iload_n 3, 1) := by decide +kernel
theorem d_Lines_takes_40 : decode b_Lines_takes 40 = .ok (.if_icmp .ne 5, 3) := by decide +kernel
theorem d_Lines_takes_43 : decode b_Lines_takes 43 = .ok (.iconst 1, 1) := by decide +kernel
theorem d_Lines_takes_44 : decode b_Lines_takes 44 = .ok (.ireturn, 1) := by decide +kernel
theorem d_Lines_takes_45 : decode b_Lines_takes 45 = .ok (.aload_n 0, 1) := by decide +kernel
theorem d_Lines_takes_46 : decode b_Lines_takes 46 = .ok (.iload_n 1, 1) := by decide +kernel
theorem d_Lines_takes_47 : decode b_Lines_takes 47 = .ok (.iload 5, 2) := by decide +kernel
theorem d_Lines_takes_49 : decode b_Lines_takes 49 = .ok (.iconst 1, 1) := by decide +kernel
theorem d_Lines_takes_50 : decode b_Lines_takes 50 = .ok (.iadd, 1) := by decide +kernel
theorem d_Lines_takes_51 : decode b_Lines_takes 51 = .ok (.invokevirtual 47, 3) := by decide +kernel
theorem d_Lines_takes_54 : decode b_Lines_takes 54 = .ok (.iconst 1, 1) := by decide +kernel
theorem d_Lines_takes_55 : decode b_Lines_takes 55 = .ok (.if_icmp .ne 7, 3) := by decide +kernel
theorem d_Lines_takes_58 : decode b_Lines_takes 58 = .ok (.iconst 1, 1) := by decide +kernel
theorem d_Lines_takes_59 : decode b_Lines_takes 59 = .ok (.goto 4, 3) := by decide +kernel
theorem d_Lines_takes_62 : decode b_Lines_takes 62 = .ok (.iconst 0, 1) := by decide +kernel
theorem d_Lines_takes_63 : decode b_Lines_takes 63 = .ok (.istore 4, 2) := by decide +kernel
theorem d_Lines_takes_65 : decode b_Lines_takes 65 = .ok (.iinc 5 1, 3) := by decide +kernel
theorem d_Lines_takes_68 : decode b_Lines_takes 68 = .ok (.goto (-51), 3) := by decide +kernel
theorem d_Lines_takes_71 : decode b_Lines_takes 71 = .ok (.iconst 0, 1) := by decide +kernel
theorem d_Lines_takes_72 : decode b_Lines_takes 72 = .ok (.ireturn, 1) := by decide +kernel
theorem d_Trial_takeTopic_0 : decode b_Trial_takeTopic 0 = .ok (.aload_n 0, 1) := by decide +kernel
theorem d_Trial_takeTopic_1 : decode b_Trial_takeTopic 1 = .ok (.bipush 9, 2) := by decide +kernel
theorem d_Trial_takeTopic_3 : decode b_Trial_takeTopic 3 = .ok (.invokevirtual 140, 3) := by decide +kernel
theorem d_Trial_takeTopic_6 : decode b_Trial_takeTopic 6 = .ok (.astore_n 2, 1) := by decide +kernel
theorem d_Trial_takeTopic_7 : decode b_Trial_takeTopic 7 = .ok (.aload_n 0, 1) := by decide +kernel
theorem d_Trial_takeTopic_8 : decode b_Trial_takeTopic 8 = .ok (.getfield 83, 3) := by decide +kernel
theorem d_Trial_takeTopic_11 : decode b_Trial_takeTopic 11 = .ok (.istore_n 3, 1) := by decide +kernel
theorem d_Trial_takeTopic_12 : decode b_Trial_takeTopic 12 = .ok (.aload_n 0, 1) := by decide +kernel
theorem d_Trial_takeTopic_13 : decode b_Trial_takeTopic 13 = .ok (.getfield 83, 3) := by decide +kernel
theorem d_Trial_takeTopic_16 : decode b_Trial_takeTopic 16 = .ok (.aload_n 0, 1) := by decide +kernel
theorem d_Trial_takeTopic_17 : decode b_Trial_takeTopic 17 = .ok (.getfield 52, 3) := by decide +kernel
theorem d_Trial_takeTopic_20 : decode b_Trial_takeTopic 20 = .ok (.invokevirtual 86, 3) := by decide +kernel
theorem d_Trial_takeTopic_23 : decode b_Trial_takeTopic 23 = .ok (.if_icmp .ge 70, 3) := by decide +kernel
theorem d_Trial_takeTopic_26 : decode b_Trial_takeTopic 26 = .ok (.aload_n 0, 1) := by decide +kernel
theorem d_Trial_takeTopic_27 : decode b_Trial_takeTopic 27 = .ok (.getfield 83, 3) := by decide +kernel
theorem d_Trial_takeTopic_30 : decode b_Trial_takeTopic 30 = .ok (.iload_n 3, 1) := by decide +kernel
theorem d_Trial_takeTopic_31 : decode b_Trial_takeTopic 31 = .ok (.if_icmp .eq 31, 3) := by decide +kernel
theorem d_Trial_takeTopic_34 : decode b_Trial_takeTopic 34 = .ok (.aload_n 0, 1) := by decide +kernel
theorem d_Trial_takeTopic_35 : decode b_Trial_takeTopic 35 = .ok (.getfield 44, 3) := by decide +kernel
theorem d_Trial_takeTopic_38 : decode b_Trial_takeTopic 38 = .ok (.aload_n 0, 1) := by decide +kernel
theorem d_Trial_takeTopic_39 : decode b_Trial_takeTopic 39 = .ok (.getfield 33, 3) := by decide +kernel
theorem d_Trial_takeTopic_42 : decode b_Trial_takeTopic 42 = .ok (.iload_n 1, 1) := by decide +kernel
theorem d_Trial_takeTopic_43 : decode b_Trial_takeTopic 43 = .ok (.iconst 1, 1) := by decide +kernel
theorem d_Trial_takeTopic_44 : decode b_Trial_takeTopic 44 = .ok (.iadd, 1) := by decide +kernel
theorem d_Trial_takeTopic_45 : decode b_Trial_takeTopic 45 = .ok (.aload_n 0, 1) := by decide +kernel
theorem d_Trial_takeTopic_46 : decode b_Trial_takeTopic 46 = .ok (.getfield 52, 3) := by decide +kernel
theorem d_Trial_takeTopic_49 : decode b_Trial_takeTopic 49 = .ok (.aload_n 0, 1) := by decide +kernel
theorem d_Trial_takeTopic_50 : decode b_Trial_takeTopic 50 = .ok (.getfield 83, 3) := by decide +kernel
theorem d_Trial_takeTopic_53 : decode b_Trial_takeTopic 53 = .ok (.invokevirtual 115, 3) := by decide +kernel
theorem d_Trial_takeTopic_56 : decode b_Trial_takeTopic 56 = .ok (.invokevirtual 132, 3) := by decide +kernel
theorem d_Trial_takeTopic_59 : decode b_Trial_takeTopic 59 = .ok (.ifCond .ne 34, 3) := by decide +kernel
theorem d_Trial_takeTopic_62 : decode b_Trial_takeTopic 62 = .ok (.aload_n 2, 1) := by decide +kernel
theorem d_Trial_takeTopic_63 : decode b_Trial_takeTopic 63 = .ok (.getfield 144, 3) := by decide +kernel
theorem d_Trial_takeTopic_66 : decode b_Trial_takeTopic 66 = .ok (.aload_n 0, 1) := by decide +kernel
theorem d_Trial_takeTopic_67 : decode b_Trial_takeTopic 67 = .ok (.getfield 52, 3) := by decide +kernel
theorem d_Trial_takeTopic_70 : decode b_Trial_takeTopic 70 = .ok (.aload_n 0, 1) := by decide +kernel
theorem d_Trial_takeTopic_71 : decode b_Trial_takeTopic 71 = .ok (.getfield 83, 3) := by decide +kernel
theorem d_Trial_takeTopic_74 : decode b_Trial_takeTopic 74 = .ok (.invokevirtual 115, 3) := by decide +kernel
theorem d_Trial_takeTopic_77 : decode b_Trial_takeTopic 77 = .ok (.invokevirtual 147, 3) := by decide +kernel
theorem d_Trial_takeTopic_80 : decode b_Trial_takeTopic 80 = .ok (.aload_n 0, 1) := by decide +kernel
theorem d_Trial_takeTopic_81 : decode b_Trial_takeTopic 81 = .ok (.dup, 1) := by decide +kernel
theorem d_Trial_takeTopic_82 : decode b_Trial_takeTopic 82 = .ok (.getfield 83, 3) := by decide +kernel
theorem d_Trial_takeTopic_85 : decode b_Trial_takeTopic 85 = .ok (.iconst 1, 1) := by decide +kernel
theorem d_Trial_takeTopic_86 : decode b_Trial_takeTopic 86 = .ok (.iadd, 1) := by decide +kernel
theorem d_Trial_takeTopic_87 : decode b_Trial_takeTopic 87 = .ok (.putfield 83, 3) := by decide +kernel
theorem d_Trial_takeTopic_90 : decode b_Trial_takeTopic 90 = .ok (.goto (-78), 3) := by decide +kernel
theorem d_Trial_takeTopic_93 : decode b_Trial_takeTopic 93 = .ok (.return_, 1) := by decide +kernel
theorem d_Trial_takeWord_0 : decode b_Trial_takeWord 0 = .ok (.aload_n 0, 1) := by decide +kernel
theorem d_Trial_takeWord_1 : decode b_Trial_takeWord 1 = .ok (.getfield 44, 3) := by decide +kernel
theorem d_Trial_takeWord_4 : decode b_Trial_takeWord 4 = .ok (.aload_n 0, 1) := by decide +kernel
theorem d_Trial_takeWord_5 : decode b_Trial_takeWord 5 = .ok (.getfield 33, 3) := by decide +kernel
theorem d_Trial_takeWord_8 : decode b_Trial_takeWord 8 = .ok (.iload_n 1, 1) := by decide +kernel
theorem d_Trial_takeWord_9 : decode b_Trial_takeWord 9 = .ok (.aload_n 0, 1) := by decide +kernel
theorem d_Trial_takeWord_10 : decode b_Trial_takeWord 10 = .ok (.getfield 52, 3) := by decide +kernel
theorem d_Trial_takeWord_13 : decode b_Trial_takeWord 13 = .ok (.aload_n 0, 1) := by decide +kernel
theorem d_Trial_takeWord_14 : decode b_Trial_takeWord 14 = .ok (.getfield 83, 3) := by decide +kernel
theorem d_Trial_takeWord_17 : decode b_Trial_takeWord 17 = .ok (.invokevirtual 115, 3) := by decide +kernel
theorem d_Trial_takeWord_20 : decode b_Trial_takeWord 20 = .ok (.invokevirtual 132, 3) := by decide +kernel
theorem d_Trial_takeWord_23 : decode b_Trial_takeWord 23 = .ok (.ifCond .eq 16, 3) := by decide +kernel
theorem d_Trial_takeWord_26 : decode b_Trial_takeWord 26 = .ok (.aload_n 0, 1) := by decide +kernel
theorem d_Trial_takeWord_27 : decode b_Trial_takeWord 27 = .ok (.dup, 1) := by decide +kernel
theorem d_Trial_takeWord_28 : decode b_Trial_takeWord 28 = .ok (.getfield 83, 3) := by decide +kernel
theorem d_Trial_takeWord_31 : decode b_Trial_takeWord 31 = .ok (.iconst 1, 1) := by decide +kernel
theorem d_Trial_takeWord_32 : decode b_Trial_takeWord 32 = .ok (.iadd, 1) := by decide +kernel
theorem d_Trial_takeWord_33 : decode b_Trial_takeWord 33 = .ok (.putfield 83, 3) := by decide +kernel
theorem d_Trial_takeWord_36 : decode b_Trial_takeWord 36 = .ok (.goto 12, 3) := by decide +kernel
theorem d_Trial_takeWord_39 : decode b_Trial_takeWord 39 = .ok (.aload_n 0, 1) := by decide +kernel
theorem d_Trial_takeWord_40 : decode b_Trial_takeWord 40 = .ok (.iconst 5, 1) := by decide +kernel
theorem d_Trial_takeWord_41 : decode b_Trial_takeWord 41 = .ok (.aload_n 0, 1) := by decide +kernel
theorem d_Trial_takeWord_42 : decode b_Trial_takeWord 42 = .ok (.getfield 83, 3) := by decide +kernel
theorem d_Trial_takeWord_45 : decode b_Trial_takeWord 45 = .ok (.invokevirtual 136, 3) := by decide +kernel
theorem d_Trial_takeWord_48 : decode b_Trial_takeWord 48 = .ok (.return_, 1) := by decide +kernel
theorem d_Lines_slotFrom_0 : decode b_Lines_slotFrom 0 = .ok (.iload_n 2, 1) := by decide +kernel
theorem d_Lines_slotFrom_1 : decode b_Lines_slotFrom 1 = .ok (.istore_n 3, 1) := by decide +kernel
theorem d_Lines_slotFrom_2 : decode b_Lines_slotFrom 2 = .ok (.iload_n 3, 1) := by decide +kernel
theorem d_Lines_slotFrom_3 : decode b_Lines_slotFrom 3 = .ok (.aload_n 0, 1) := by decide +kernel
theorem d_Lines_slotFrom_4 : decode b_Lines_slotFrom 4 = .ok (.iload_n 1, 1) := by decide +kernel
theorem d_Lines_slotFrom_5 : decode b_Lines_slotFrom 5 = .ok (.invokevirtual 43, 3) := by decide +kernel
theorem d_Lines_slotFrom_8 : decode b_Lines_slotFrom 8 = .ok (.if_icmp .ge 23, 3) := by decide +kernel
theorem d_Lines_slotFrom_11 : decode b_Lines_slotFrom 11 = .ok (.aload_n 0, 1) := by decide +kernel
theorem d_Lines_slotFrom_12 : decode b_Lines_slotFrom 12 = .ok (.iload_n 1, 1) := by decide +kernel
theorem d_Lines_slotFrom_13 : decode b_Lines_slotFrom 13 = .ok (.iload_n 3, 1) := by decide +kernel
theorem d_Lines_slotFrom_14 : decode b_Lines_slotFrom 14 = .ok (.invokevirtual 47, 3) := by decide +kernel
theorem d_Lines_slotFrom_17 : decode b_Lines_slotFrom 17 = .ok (.invokestatic 51, 3) := by decide +kernel
theorem d_Lines_slotFrom_20 : decode b_Lines_slotFrom 20 = .ok (.ifCond .eq 5, 3) := by decide +kernel
theorem d_Lines_slotFrom_23 : decode b_Lines_slotFrom 23 = .ok (.iload_n 3, 1) := by decide +kernel
theorem d_Lines_slotFrom_24 : decode b_Lines_slotFrom 24 = .ok (.ireturn, 1) := by decide +kernel
theorem d_Lines_slotFrom_25 : decode b_Lines_slotFrom 25 = .ok (.iinc 3 1, 3) := by decide +kernel
theorem d_Lines_slotFrom_28 : decode b_Lines_slotFrom 28 = .ok (.goto (-26), 3) := by decide +kernel
theorem d_Lines_slotFrom_31 : decode b_Lines_slotFrom 31 = .ok (.iconst (-1), 1) := by decide +kernel
theorem d_Lines_slotFrom_32 : decode b_Lines_slotFrom 32 = .ok (.ireturn, 1) := by decide +kernel
theorem d_Things_fillersFor_0 : decode b_Things_fillersFor 0 = .ok (.iload_n 1, 1) := by decide +kernel
theorem d_Things_fillersFor_1 : decode b_Things_fillersFor 1 = .ok (.tableswitch 74 2 5 #[31, 45, 59, 64], 31) := by decide +kernel
theorem d_Things_fillersFor_32 : decode b_Things_fillersFor 32 = .ok (.aload_n 0, 1) := by decide +kernel
theorem d_Things_fillersFor_33 : decode b_Things_fillersFor 33 = .ok (.getfield 41, 3) := by decide +kernel
theorem d_Things_fillersFor_36 : decode b_Things_fillersFor 36 = .ok (.aload_n 0, 1) := by decide +kernel
end
section
theorem d_Things_fillersFor_37 : decode b_Things_fillersFor 37 = .ok (.getfield 51, 3) := by decide +kernel
theorem d_Things_fillersFor_40 : decode b_Things_fillersFor 40 = .ok (.ldc2_w 62, 3) := by decide +kernel
theorem d_Things_fillersFor_43 : decode b_Things_fillersFor 43 = .ok (.lxor, 1) := by decide +kernel
theorem d_Things_fillersFor_44 : decode b_Things_fillersFor 44 = .ok (.land, 1) := by decide +kernel
theorem d_Things_fillersFor_45 : decode b_Things_fillersFor 45 = .ok (.lreturn, 1) := by decide +kernel
theorem d_Things_fillersFor_46 : decode b_Things_fillersFor 46 = .ok (.aload_n 0, 1) := by decide +kernel
theorem d_Things_fillersFor_47 : decode b_Things_fillersFor 47 = .ok (.getfield 45, 3) := by decide +kernel
theorem d_Things_fillersFor_50 : decode b_Things_fillersFor 50 = .ok (.aload_n 0, 1) := by decide +kernel
theorem d_Things_fillersFor_51 : decode b_Things_fillersFor 51 = .ok (.getfield 51, 3) := by decide +kernel
theorem d_Things_fillersFor_54 : decode b_Things_fillersFor 54 = .ok (.ldc2_w 62, 3) := by decide +kernel
theorem d_Things_fillersFor_57 : decode b_Things_fillersFor 57 = .ok (.lxor, 1) := by decide +kernel
theorem d_Things_fillersFor_58 : decode b_Things_fillersFor 58 = .ok (.land, 1) := by decide +kernel
theorem d_Things_fillersFor_59 : decode b_Things_fillersFor 59 = .ok (.lreturn, 1) := by decide +kernel
theorem d_Things_fillersFor_60 : decode b_Things_fillersFor 60 = .ok (.aload_n 0, 1) := by decide +kernel
theorem d_Things_fillersFor_61 : decode b_Things_fillersFor 61 = .ok (.getfield 48, 3) := by decide +kernel
theorem d_Things_fillersFor_64 : decode b_Things_fillersFor 64 = .ok (.lreturn, 1) := by decide +kernel
theorem d_Things_fillersFor_65 : decode b_Things_fillersFor 65 = .ok (.aload_n 0, 1) := by decide +kernel
theorem d_Things_fillersFor_66 : decode b_Things_fillersFor 66 = .ok (.getfield 41, 3) := by decide +kernel
theorem d_Things_fillersFor_69 : decode b_Things_fillersFor 69 = .ok (.aload_n 0, 1) := by decide +kernel
theorem d_Things_fillersFor_70 : decode b_Things_fillersFor 70 = .ok (.getfield 51, 3) := by decide +kernel
theorem d_Things_fillersFor_73 : decode b_Things_fillersFor 73 = .ok (.land, 1) := by decide +kernel
theorem d_Things_fillersFor_74 : decode b_Things_fillersFor 74 = .ok (.lreturn, 1) := by decide +kernel
theorem d_Things_fillersFor_75 : decode b_Things_fillersFor 75 = .ok (.lconst 0, 1) := by decide +kernel
theorem d_Things_fillersFor_76 : decode b_Things_fillersFor 76 = .ok (.lreturn, 1) := by decide +kernel
theorem d_Trial_fillFrom_0 : decode b_Trial_fillFrom 0 = .ok (.iload_n 1, 1) := by decide +kernel
theorem d_Trial_fillFrom_1 : decode b_Trial_fillFrom 1 = .ok (.istore_n 2, 1) := by decide +kernel
theorem d_Trial_fillFrom_2 : decode b_Trial_fillFrom 2 = .ok (.iload_n 2, 1) := by decide +kernel
theorem d_Trial_fillFrom_3 : decode b_Trial_fillFrom 3 = .ok (.aload_n 0, 1) := by decide +kernel
theorem d_Trial_fillFrom_4 : decode b_Trial_fillFrom 4 = .ok (.getfield 44, 3) := by decide +kernel
theorem d_Trial_fillFrom_7 : decode b_Trial_fillFrom 7 = .ok (.aload_n 0, 1) := by decide +kernel
theorem d_Trial_fillFrom_8 : decode b_Trial_fillFrom 8 = .ok (.getfield 33, 3) := by decide +kernel
theorem d_Trial_fillFrom_11 : decode b_Trial_fillFrom 11 = .ok (.invokevirtual 70, 3) := by decide +kernel
theorem d_Trial_fillFrom_14 : decode b_Trial_fillFrom 14 = .ok (.if_icmp .ge 126, 3) := by decide +kernel
theorem d_Trial_fillFrom_17 : decode b_Trial_fillFrom 17 = .ok (.aload_n 0, 1) := by decide +kernel
theorem d_Trial_fillFrom_18 : decode b_Trial_fillFrom 18 = .ok (.getfield 44, 3) := by decide +kernel
theorem d_Trial_fillFrom_21 : decode b_Trial_fillFrom 21 = .ok (.aload_n 0, 1) := by decide +kernel
theorem d_Trial_fillFrom_22 : decode b_Trial_fillFrom 22 = .ok (.getfield 33, 3) := by decide +kernel
theorem d_Trial_fillFrom_25 : decode b_Trial_fillFrom 25 = .ok (.iload_n 2, 1) := by decide +kernel
theorem d_Trial_fillFrom_26 : decode b_Trial_fillFrom 26 = .ok (.invokevirtual 79, 3) := by decide +kernel
theorem d_Trial_fillFrom_29 : decode b_Trial_fillFrom 29 = .ok (.istore_n 3, 1) := by decide +kernel
theorem d_Trial_fillFrom_30 : decode b_Trial_fillFrom 30 = .ok (.iload_n 3, 1) := by decide +kernel
theorem d_Trial_fillFrom_31 : decode b_Trial_fillFrom 31 = .ok (.ifCond .ne 25, 3) := by decide +kernel
theorem d_Trial_fillFrom_34 : decode b_Trial_fillFrom 34 = .ok (.aload_n 0, 1) := by decide +kernel
theorem d_Trial_fillFrom_35 : decode b_Trial_fillFrom 35 = .ok (.getfield 26, 3) := by decide +kernel
theorem d_Trial_fillFrom_38 : decode b_Trial_fillFrom 38 = .ok (.aload_n 0, 1) := by decide +kernel
theorem d_Trial_fillFrom_39 : decode b_Trial_fillFrom 39 = .ok (.getfield 44, 3) := by decide +kernel
theorem d_Trial_fillFrom_42 : decode b_Trial_fillFrom 42 = .ok (.aload_n 0, 1) := by decide +kernel
theorem d_Trial_fillFrom_43 : decode b_Trial_fillFrom 43 = .ok (.getfield 33, 3) := by decide +kernel
theorem d_Trial_fillFrom_46 : decode b_Trial_fillFrom 46 = .ok (.iload_n 2, 1) := by decide +kernel
theorem d_Trial_fillFrom_47 : decode b_Trial_fillFrom 47 = .ok (.invokevirtual 102, 3) := by decide +kernel
theorem d_Trial_fillFrom_50 : decode b_Trial_fillFrom 50 = .ok (.invokevirtual 147, 3) := by decide +kernel
theorem d_Trial_fillFrom_53 : decode b_Trial_fillFrom 53 = .ok (.goto 81, 3) := by decide +kernel
theorem d_Trial_fillFrom_56 : decode b_Trial_fillFrom 56 = .ok (.iload_n 3, 1) := by decide +kernel
theorem d_Trial_fillFrom_57 : decode b_Trial_fillFrom 57 = .ok (.invokestatic 200, 3) := by decide +kernel
theorem d_Trial_fillFrom_60 : decode b_Trial_fillFrom 60 = .ok (.ifCond .eq 74, 3) := by decide +kernel
theorem d_Trial_fillFrom_63 : decode b_Trial_fillFrom 63 = .ok (.aload_n 0, 1) := by decide +kernel
theorem d_Trial_fillFrom_64 : decode b_Trial_fillFrom 64 = .ok (.getfield 40, 3) := by decide +kernel
theorem d_Trial_fillFrom_67 : decode b_Trial_fillFrom 67 = .ok (.iload_n 3, 1) := by decide +kernel
theorem d_Trial_fillFrom_68 : decode b_Trial_fillFrom 68 = .ok (.invokevirtual 203, 3) := by decide +kernel
theorem d_Trial_fillFrom_71 : decode b_Trial_fillFrom 71 = .ok (.aload_n 0, 1) := by decide +kernel
theorem d_Trial_fillFrom_72 : decode b_Trial_fillFrom 72 = .ok (.getfield 12, 3) := by decide +kernel
theorem d_Trial_fillFrom_75 : decode b_Trial_fillFrom 75 = .ok (.getfield 159, 3) := by decide +kernel
theorem d_Trial_fillFrom_78 : decode b_Trial_fillFrom 78 = .ok (.aload_n 0, 1) := by decide +kernel
theorem d_Trial_fillFrom_79 : decode b_Trial_fillFrom 79 = .ok (.getfield 18, 3) := by decide +kernel
theorem d_Trial_fillFrom_82 : decode b_Trial_fillFrom 82 = .ok (.getfield 159, 3) := by decide +kernel
theorem d_Trial_fillFrom_85 : decode b_Trial_fillFrom 85 = .ok (.lor, 1) := by decide +kernel
theorem d_Trial_fillFrom_86 : decode b_Trial_fillFrom 86 = .ok (.ldc2_w 192, 3) := by decide +kernel
theorem d_Trial_fillFrom_89 : decode b_Trial_fillFrom 89 = .ok (.lxor, 1) := by decide +kernel
theorem d_Trial_fillFrom_90 : decode b_Trial_fillFrom 90 = .ok (.land, 1) := by decide +kernel
theorem d_Trial_fillFrom_91 : decode b_Trial_fillFrom 91 = .ok (.lstore 4, 2) := by decide +kernel
theorem d_Trial_fillFrom_93 : decode b_Trial_fillFrom 93 = .ok (.lload 4, 2) := by decide +kernel
theorem d_Trial_fillFrom_95 : decode b_Trial_fillFrom 95 = .ok (.invokestatic 176, 3) := by decide +kernel
theorem d_Trial_fillFrom_98 : decode b_Trial_fillFrom 98 = .ok (.iconst 1, 1) := by decide +kernel
theorem d_Trial_fillFrom_99 : decode b_Trial_fillFrom 99 = .ok (.if_icmp .eq 5, 3) := by decide +kernel
theorem d_Trial_fillFrom_102 : decode b_Trial_fillFrom 102 = .ok (.iconst 0, 1) := by decide +kernel
theorem d_Trial_fillFrom_103 : decode b_Trial_fillFrom 103 = .ok (.ireturn, 1) := by decide +kernel
theorem d_Trial_fillFrom_104 : decode b_Trial_fillFrom 104 = .ok (.aload_n 0, 1) := by decide +kernel
theorem d_Trial_fillFrom_105 : decode b_Trial_fillFrom 105 = .ok (.iload_n 3, 1) := by decide +kernel
theorem d_Trial_fillFrom_106 : decode b_Trial_fillFrom 106 = .ok (.invokevirtual 140, 3) := by decide +kernel
theorem d_Trial_fillFrom_109 : decode b_Trial_fillFrom 109 = .ok (.lload 4, 2) := by decide +kernel
theorem d_Trial_fillFrom_111 : decode b_Trial_fillFrom 111 = .ok (.putfield 159, 3) := by decide +kernel
theorem d_Trial_fillFrom_114 : decode b_Trial_fillFrom 114 = .ok (.aload_n 0, 1) := by decide +kernel
theorem d_Trial_fillFrom_115 : decode b_Trial_fillFrom 115 = .ok (.getfield 26, 3) := by decide +kernel
theorem d_Trial_fillFrom_118 : decode b_Trial_fillFrom 118 = .ok (.sipush 20000, 3) := by decide +kernel
theorem d_Trial_fillFrom_121 : decode b_Trial_fillFrom 121 = .ok (.aload_n 0, 1) := by decide +kernel
theorem d_Trial_fillFrom_122 : decode b_Trial_fillFrom 122 = .ok (.getfield 40, 3) := by decide +kernel
theorem d_Trial_fillFrom_125 : decode b_Trial_fillFrom 125 = .ok (.lload 4, 2) := by decide +kernel
theorem d_Trial_fillFrom_127 : decode b_Trial_fillFrom 127 = .ok (.invokevirtual 206, 3) := by decide +kernel
theorem d_Trial_fillFrom_130 : decode b_Trial_fillFrom 130 = .ok (.iadd, 1) := by decide +kernel
theorem d_Trial_fillFrom_131 : decode b_Trial_fillFrom 131 = .ok (.invokevirtual 147, 3) := by decide +kernel
theorem d_Trial_fillFrom_134 : decode b_Trial_fillFrom 134 = .ok (.iinc 2 1, 3) := by decide +kernel
theorem d_Trial_fillFrom_137 : decode b_Trial_fillFrom 137 = .ok (.goto (-135), 3) := by decide +kernel
theorem d_Trial_fillFrom_140 : decode b_Trial_fillFrom 140 = .ok (.iconst 1, 1) := by decide +kernel
theorem d_Trial_fillFrom_141 : decode b_Trial_fillFrom 141 = .ok (.ireturn, 1) := by decide +kernel
theorem d_Trial_fillOrAsk_0 : decode b_Trial_fillOrAsk 0 = .ok (.aload_n 0, 1) := by decide +kernel
theorem d_Trial_fillOrAsk_1 : decode b_Trial_fillOrAsk 1 = .ok (.getfield 44, 3) := by decide +kernel
theorem d_Trial_fillOrAsk_4 : decode b_Trial_fillOrAsk 4 = .ok (.aload_n 0, 1) := by decide +kernel
theorem d_Trial_fillOrAsk_5 : decode b_Trial_fillOrAsk 5 = .ok (.getfield 33, 3) := by decide +kernel
theorem d_Trial_fillOrAsk_8 : decode b_Trial_fillOrAsk 8 = .ok (.iload_n 1, 1) := by decide +kernel
theorem d_Trial_fillOrAsk_9 : decode b_Trial_fillOrAsk 9 = .ok (.invokevirtual 194, 3) := by decide +kernel
theorem d_Trial_fillOrAsk_12 : decode b_Trial_fillOrAsk 12 = .ok (.istore_n 2, 1) := by decide +kernel
theorem d_Trial_fillOrAsk_13 : decode b_Trial_fillOrAsk 13 = .ok (.iload_n 2, 1) := by decide +kernel
theorem d_Trial_fillOrAsk_14 : decode b_Trial_fillOrAsk 14 = .ok (.iconst (-1), 1) := by decide +kernel
theorem d_Trial_fillOrAsk_15 : decode b_Trial_fillOrAsk 15 = .ok (.if_icmp .ne 15, 3) := by decide +kernel
theorem d_Trial_fillOrAsk_18 : decode b_Trial_fillOrAsk 18 = .ok (.aload_n 0, 1) := by decide +kernel
theorem d_Trial_fillOrAsk_19 : decode b_Trial_fillOrAsk 19 = .ok (.iconst 5, 1) := by decide +kernel
theorem d_Trial_fillOrAsk_20 : decode b_Trial_fillOrAsk 20 = .ok (.aload_n 0, 1) := by decide +kernel
theorem d_Trial_fillOrAsk_21 : decode b_Trial_fillOrAsk 21 = .ok (.getfield 83, 3) := by decide +kernel
theorem d_Trial_fillOrAsk_24 : decode b_Trial_fillOrAsk 24 = .ok (.invokevirtual 136, 3) := by decide +kernel
theorem d_Trial_fillOrAsk_27 : decode b_Trial_fillOrAsk 27 = .ok (.goto 87, 3) := by decide +kernel
theorem d_Trial_fillOrAsk_30 : decode b_Trial_fillOrAsk 30 = .ok (.aload_n 0, 1) := by decide +kernel
theorem d_Trial_fillOrAsk_31 : decode b_Trial_fillOrAsk 31 = .ok (.iload_n 1, 1) := by decide +kernel
theorem d_Trial_fillOrAsk_32 : decode b_Trial_fillOrAsk 32 = .ok (.invokevirtual 197, 3) := by decide +kernel
theorem d_Trial_fillOrAsk_35 : decode b_Trial_fillOrAsk 35 = .ok (.ifCond .ne 79, 3) := by decide +kernel
theorem d_Trial_fillOrAsk_38 : decode b_Trial_fillOrAsk 38 = .ok (.aload_n 0, 1) := by decide +kernel
theorem d_Trial_fillOrAsk_39 : decode b_Trial_fillOrAsk 39 = .ok (.getfield 30, 3) := by decide +kernel
theorem d_Trial_fillOrAsk_42 : decode b_Trial_fillOrAsk 42 = .ok (.aload_n 0, 1) := by decide +kernel
theorem d_Trial_fillOrAsk_43 : decode b_Trial_fillOrAsk 43 = .ok (.getfield 44, 3) := by decide +kernel
theorem d_Trial_fillOrAsk_46 : decode b_Trial_fillOrAsk 46 = .ok (.aload_n 0, 1) := by decide +kernel
theorem d_Trial_fillOrAsk_47 : decode b_Trial_fillOrAsk 47 = .ok (.getfield 33, 3) := by decide +kernel
theorem d_Trial_fillOrAsk_50 : decode b_Trial_fillOrAsk 50 = .ok (.iload_n 2, 1) := by decide +kernel
theorem d_Trial_fillOrAsk_51 : decode b_Trial_fillOrAsk 51 = .ok (.invokevirtual 79, 3) := by decide +kernel
theorem d_Trial_fillOrAsk_54 : decode b_Trial_fillOrAsk 54 = .ok (.invokevirtual 147, 3) := by decide +kernel
theorem d_Trial_fillOrAsk_57 : decode b_Trial_fillOrAsk 57 = .ok (.iload_n 1, 1) := by decide +kernel
theorem d_Trial_fillOrAsk_58 : decode b_Trial_fillOrAsk 58 = .ok (.istore_n 3, 1) := by decide +kernel
theorem d_Trial_fillOrAsk_59 : decode b_Trial_fillOrAsk 59 = .ok (.iload_n 3, 1) := by decide +kernel
theorem d_Trial_fillOrAsk_60 : decode b_Trial_fillOrAsk 60 = .ok (.iload_n 2, 1) := by decide +kernel
theorem d_Trial_fillOrAsk_61 : decode b_Trial_fillOrAsk 61 = .ok (.if_icmp .ge 43, 3) := by decide +kernel
theorem d_Trial_fillOrAsk_64 : decode b_Trial_fillOrAsk 64 = .ok (.aload_n 0, 1) := by decide +kernel
theorem d_Trial_fillOrAsk_65 : decode b_Trial_fillOrAsk 65 = .ok (.getfield 44, 3) := by decide +kernel
theorem d_Trial_fillOrAsk_68 : decode b_Trial_fillOrAsk 68 = .ok (.aload_n 0, 1) := by decide +kernel
theorem d_Trial_fillOrAsk_69 : decode b_Trial_fillOrAsk 69 = .ok (.getfield 33, 3) := by decide +kernel
theorem d_Trial_fillOrAsk_72 : decode b_Trial_fillOrAsk 72 = .ok (.iload_n 3, 1) := by decide +kernel
theorem d_Trial_fillOrAsk_73 : decode b_Trial_fillOrAsk 73 = .ok (.invokevirtual 79, 3) := by decide +kernel
theorem d_Trial_fillOrAsk_76 : decode b_Trial_fillOrAsk 76 = .ok (.ifCond .ne 22, 3) := by decide +kernel
theorem d_Trial_fillOrAsk_79 : decode b_Trial_fillOrAsk 79 = .ok (.aload_n 0, 1) := by decide +kernel
theorem d_Trial_fillOrAsk_80 : decode b_Trial_fillOrAsk 80 = .ok (.getfield 30, 3) := by decide +kernel
theorem d_Trial_fillOrAsk_83 : decode b_Trial_fillOrAsk 83 = .ok (.aload_n 0, 1) := by decide +kernel
theorem d_Trial_fillOrAsk_84 : decode b_Trial_fillOrAsk 84 = .ok (.getfield 44, 3) := by decide +kernel
theorem d_Trial_fillOrAsk_87 : decode b_Trial_fillOrAsk 87 = .ok (.aload_n 0, 1) := by decide +kernel
theorem d_Trial_fillOrAsk_88 : decode b_Trial_fillOrAsk 88 = .ok (.getfield 33, 3) := by decide +kernel
theorem d_Trial_fillOrAsk_91 : decode b_Trial_fillOrAsk 91 = .ok (.iload_n 3, 1) := by decide +kernel
theorem d_Trial_fillOrAsk_92 : decode b_Trial_fillOrAsk 92 = .ok (.invokevirtual 102, 3) := by decide +kernel
theorem d_Trial_fillOrAsk_95 : decode b_Trial_fillOrAsk 95 = .ok (.invokevirtual 147, 3) := by decide +kernel
theorem d_Trial_fillOrAsk_98 : decode b_Trial_fillOrAsk 98 = .ok (.iinc 3 1, 3) := by decide +kernel
theorem d_Trial_fillOrAsk_101 : decode b_Trial_fillOrAsk 101 = .ok (.goto (-42), 3) := by decide +kernel
theorem d_Trial_fillOrAsk_104 : decode b_Trial_fillOrAsk 104 = .ok (.aload_n 0, 1) := by decide +kernel
theorem d_Trial_fillOrAsk_105 : decode b_Trial_fillOrAsk 105 = .ok (.bipush 16, 2) := by decide +kernel
theorem d_Trial_fillOrAsk_107 : decode b_Trial_fillOrAsk 107 = .ok (.aload_n 0, 1) := by decide +kernel
theorem d_Trial_fillOrAsk_108 : decode b_Trial_fillOrAsk 108 = .ok (.getfield 83, 3) := by decide +kernel
theorem d_Trial_fillOrAsk_111 : decode b_Trial_fillOrAsk 111 = .ok (.invokevirtual 136, 3) := by decide +kernel
theorem d_Trial_fillOrAsk_114 : decode b_Trial_fillOrAsk 114 = .ok (.return_, 1) := by decide +kernel
theorem d_Trial_tryLine_0 : decode b_Trial_tryLine 0 = .ok (.aload_n 0, 1) := by decide +kernel
theorem d_Trial_tryLine_1 : decode b_Trial_tryLine 1 = .ok (.iload_n 1, 1) := by decide +kernel
theorem d_Trial_tryLine_2 : decode b_Trial_tryLine 2 = .ok (.invokevirtual 67, 3) := by decide +kernel
theorem d_Trial_tryLine_5 : decode b_Trial_tryLine 5 = .ok (.iconst 0, 1) := by decide +kernel
theorem d_Trial_tryLine_6 : decode b_Trial_tryLine 6 = .ok (.istore_n 2, 1) := by decide +kernel
theorem d_Trial_tryLine_7 : decode b_Trial_tryLine 7 = .ok (.iload_n 2, 1) := by decide +kernel
theorem d_Trial_tryLine_8 : decode b_Trial_tryLine 8 = .ok (.aload_n 0, 1) := by decide +kernel
theorem d_Trial_tryLine_9 : decode b_Trial_tryLine 9 = .ok (.getfield 44, 3) := by decide +kernel
theorem d_Trial_tryLine_12 : decode b_Trial_tryLine 12 = .ok (.aload_n 0, 1) := by decide +kernel
theorem d_Trial_tryLine_13 : decode b_Trial_tryLine 13 = .ok (.getfield 33, 3) := by decide +kernel
theorem d_Trial_tryLine_16 : decode b_Trial_tryLine 16 = .ok (.invokevirtual 70, 3) := by decide +kernel
theorem d_Trial_tryLine_19 : decode b_Trial_tryLine 19 = .ok (.if_icmp .ge 166, 3) := by decide +kernel
theorem d_Trial_tryLine_22 : decode b_Trial_tryLine 22 = .ok (.aload_n 0, 1) := by decide +kernel
theorem d_Trial_tryLine_23 : decode b_Trial_tryLine 23 = .ok (.getfield 76, 3) := by decide +kernel
theorem d_Trial_tryLine_26 : decode b_Trial_tryLine 26 = .ok (.ifCond .ne 159, 3) := by decide +kernel
theorem d_Trial_tryLine_29 : decode b_Trial_tryLine 29 = .ok (.aload_n 0, 1) := by decide +kernel
theorem d_Trial_tryLine_30 : decode b_Trial_tryLine 30 = .ok (.getfield 44, 3) := by decide +kernel
theorem d_Trial_tryLine_33 : decode b_Trial_tryLine 33 = .ok (.aload_n 0, 1) := by decide +kernel
theorem d_Trial_tryLine_34 : decode b_Trial_tryLine 34 = .ok (.getfield 33, 3) := by decide +kernel
theorem d_Trial_tryLine_37 : decode b_Trial_tryLine 37 = .ok (.iload_n 2, 1) := by decide +kernel
theorem d_Trial_tryLine_38 : decode b_Trial_tryLine 38 = .ok (.invokevirtual 79, 3) := by decide +kernel
theorem d_Trial_tryLine_41 : decode b_Trial_tryLine 41 = .ok (.istore_n 3, 1) := by decide +kernel
theorem d_Trial_tryLine_42 : decode b_Trial_tryLine 42 = .ok (.iload_n 3, 1) := by decide +kernel
theorem d_Trial_tryLine_43 : decode b_Trial_tryLine 43 = .ok (.iconst 1, 1) := by decide +kernel
theorem d_Trial_tryLine_44 : decode b_Trial_tryLine 44 = .ok (.if_icmp .ne 6, 3) := by decide +kernel
theorem d_Trial_tryLine_47 : decode b_Trial_tryLine 47 = .ok (.goto 132, 3) := by decide +kernel
theorem d_Trial_tryLine_50 : decode b_Trial_tryLine 50 = .ok (.aload_n 0, 1) := by decide +kernel
theorem d_Trial_tryLine_51 : decode b_Trial_tryLine 51 = .ok (.getfield 83, 3) := by decide +kernel
theorem d_Trial_tryLine_54 : decode b_Trial_tryLine 54 = .ok (.aload_n 0, 1) := by decide +kernel
theorem d_Trial_tryLine_55 : decode b_Trial_tryLine 55 = .ok (.getfield 52, 3) := by decide +kernel
theorem d_Trial_tryLine_58 : decode b_Trial_tryLine 58 = .ok (.invokevirtual 86, 3) := by decide +kernel
theorem d_Trial_tryLine_61 : decode b_Trial_tryLine 61 = .ok (.if_icmp .lt 11, 3) := by decide +kernel
theorem d_Trial_tryLine_64 : decode b_Trial_tryLine 64 = .ok (.aload_n 0, 1) := by decide +kernel
theorem d_Trial_tryLine_65 : decode b_Trial_tryLine 65 = .ok (.iload_n 2, 1) := by decide +kernel
theorem d_Trial_tryLine_66 : decode b_Trial_tryLine 66 = .ok (.invokevirtual 90, 3) := by decide +kernel
theorem d_Trial_tryLine_69 : decode b_Trial_tryLine 69 = .ok (.goto 116, 3) := by decide +kernel
theorem d_Trial_tryLine_72 : decode b_Trial_tryLine 72 = .ok (.iload_n 3, 1) := by decide +kernel
theorem d_Trial_tryLine_73 : decode b_Trial_tryLine 73 = .ok (.ifCond .ne 11, 3) := by decide +kernel
theorem d_Trial_tryLine_76 : decode b_Trial_tryLine 76 = .ok (.aload_n 0, 1) := by decide +kernel
theorem d_Trial_tryLine_77 : decode b_Trial_tryLine 77 = .ok (.iload_n 2, 1) := by decide +kernel
theorem d_Trial_tryLine_78 : decode b_Trial_tryLine 78 = .ok (.invokevirtual 93, 3) := by decide +kernel
theorem d_Trial_tryLine_81 : decode b_Trial_tryLine 81 = .ok (.goto 98, 3) := by decide +kernel
theorem d_Trial_tryLine_84 : decode b_Trial_tryLine 84 = .ok (.iload_n 3, 1) := by decide +kernel
theorem d_Trial_tryLine_85 : decode b_Trial_tryLine 85 = .ok (.bipush 9, 2) := by decide +kernel
theorem d_Trial_tryLine_87 : decode b_Trial_tryLine 87 = .ok (.if_icmp .ne 11, 3) := by decide +kernel
theorem d_Trial_tryLine_90 : decode b_Trial_tryLine 90 = .ok (.aload_n 0, 1) := by decide +kernel
theorem d_Trial_tryLine_91 : decode b_Trial_tryLine 91 = .ok (.iload_n 2, 1) := by decide +kernel
theorem d_Trial_tryLine_92 : decode b_Trial_tryLine 92 = .ok (.invokevirtual 96, 3) := by decide +kernel
theorem d_Trial_tryLine_95 : decode b_Trial_tryLine 95 = .ok (.goto 84, 3) := by decide +kernel
theorem d_Trial_tryLine_98 : decode b_Trial_tryLine 98 = .ok (.iload_n 3, 1) := by decide +kernel
theorem d_Trial_tryLine_99 : decode b_Trial_tryLine 99 = .ok (.bipush 10, 2) := by decide +kernel
theorem d_Trial_tryLine_101 : decode b_Trial_tryLine 101 = .ok (.if_icmp .ne 10, 3) := by decide +kernel
theorem d_Trial_tryLine_104 : decode b_Trial_tryLine 104 = .ok (.aload_n 0, 1) := by decide +kernel
theorem d_Trial_tryLine_105 : decode b_Trial_tryLine 105 = .ok (.invokevirtual 99, 3) := by decide +kernel
theorem d_Trial_tryLine_108 : decode b_Trial_tryLine 108 = .ok (.goto 71, 3) := by decide +kernel
theorem d_Trial_tryLine_111 : decode b_Trial_tryLine 111 = .ok (.iload_n 3, 1) := by decide +kernel
theorem d_Trial_tryLine_112 : decode b_Trial_tryLine 112 = .ok (.bipush 11, 2) := by decide +kernel
theorem d_Trial_tryLine_114 : decode b_Trial_tryLine 114 = .ok (.if_icmp .ne 22, 3) := by decide +kernel
theorem d_Trial_tryLine_117 : decode b_Trial_tryLine 117 = .ok (.aload_n 0, 1) := by decide +kernel
theorem d_Trial_tryLine_118 : decode b_Trial_tryLine 118 = .ok (.aload_n 0, 1) := by decide +kernel
theorem d_Trial_tryLine_119 : decode b_Trial_tryLine 119 = .ok (.getfield 44, 3) := by decide +kernel
theorem d_Trial_tryLine_122 : decode b_Trial_tryLine 122 = .ok (.aload_n 0, 1) := by decide +kernel
theorem d_Trial_tryLine_123 : decode b_Trial_tryLine 123 = .ok (.getfield 33, 3) := by decide +kernel
theorem d_Trial_tryLine_126 : decode b_Trial_tryLine 126 = .ok (.iload_n 2, 1) := by decide +kernel
theorem d_Trial_tryLine_127 : decode b_Trial_tryLine 127 = .ok (.invokevirtual 102, 3) := by decide +kernel
theorem d_Trial_tryLine_130 : decode b_Trial_tryLine 130 = .ok (.invokevirtual 105, 3) := by decide +kernel
theorem d_Trial_tryLine_133 : decode b_Trial_tryLine 133 = .ok (.goto 46, 3) := by decide +kernel
theorem d_Trial_tryLine_136 : decode b_Trial_tryLine 136 = .ok (.iload_n 3, 1) := by decide +kernel
theorem d_Trial_tryLine_137 : decode b_Trial_tryLine 137 = .ok (.invokestatic 108, 3) := by decide +kernel
theorem d_Trial_tryLine_140 : decode b_Trial_tryLine 140 = .ok (.ifCond .eq 11, 3) := by decide +kernel
theorem d_Trial_tryLine_143 : decode b_Trial_tryLine 143 = .ok (.aload_n 0, 1) := by decide +kernel
theorem d_Trial_tryLine_144 : decode b_Trial_tryLine 144 = .ok (.iload_n 3, 1) := by decide +kernel
theorem d_Trial_tryLine_145 : decode b_Trial_tryLine 145 = .ok (.invokevirtual 112, 3) := by decide +kernel
theorem d_Trial_tryLine_148 : decode b_Trial_tryLine 148 = .ok (.goto 31, 3) := by decide +kernel
theorem d_Trial_tryLine_151 : decode b_Trial_tryLine 151 = .ok (.aload_n 0, 1) := by decide +kernel
theorem d_Trial_tryLine_152 : decode b_Trial_tryLine 152 = .ok (.getfield 52, 3) := by decide +kernel
theorem d_Trial_tryLine_155 : decode b_Trial_tryLine 155 = .ok (.aload_n 0, 1) := by decide +kernel
theorem d_Trial_tryLine_156 : decode b_Trial_tryLine 156 = .ok (.getfield 83, 3) := by decide +kernel
theorem d_Trial_tryLine_159 : decode b_Trial_tryLine 159 = .ok (.invokevirtual 115, 3) := by decide +kernel
theorem d_Trial_tryLine_162 : decode b_Trial_tryLine 162 = .ok (.iconst 4, 1) := by decide +kernel
theorem d_Trial_tryLine_163 : decode b_Trial_tryLine 163 = .ok (.if_icmp .ne 11, 3) := by decide +kernel
theorem d_Trial_tryLine_166 : decode b_Trial_tryLine 166 = .ok (.aload_n 0, 1) := by decide +kernel
theorem d_Trial_tryLine_167 : decode b_Trial_tryLine 167 = .ok (.iload_n 3, 1) := by decide +kernel
theorem d_Trial_tryLine_168 : decode b_Trial_tryLine 168 = .ok (.invokevirtual 118, 3) := by decide +kernel
theorem d_Trial_tryLine_171 : decode b_Trial_tryLine 171 = .ok (.goto 8, 3) := by decide +kernel
theorem d_Trial_tryLine_174 : decode b_Trial_tryLine 174 = .ok (.aload_n 0, 1) := by decide +kernel
theorem d_Trial_tryLine_175 : decode b_Trial_tryLine 175 = .ok (.iload_n 3, 1) := by decide +kernel
theorem d_Trial_tryLine_176 : decode b_Trial_tryLine 176 = .ok (.invokevirtual 121, 3) := by decide +kernel
theorem d_Trial_tryLine_179 : decode b_Trial_tryLine 179 = .ok (.iinc 2 1, 3) := by decide +kernel
theorem d_Trial_tryLine_182 : decode b_Trial_tryLine 182 = .ok (.goto (-175), 3) := by decide +kernel
theorem d_Trial_tryLine_185 : decode b_Trial_tryLine 185 = .ok (.aload_n 0, 1) := by decide +kernel
theorem d_Trial_tryLine_186 : decode b_Trial_tryLine 186 = .ok (.getfield 76, 3) := by decide +kernel
theorem d_Trial_tryLine_189 : decode b_Trial_tryLine 189 = .ok (.ifCond .ne 7, 3) := by decide +kernel
theorem d_Trial_tryLine_192 : decode b_Trial_tryLine 192 = .ok (.aload_n 0, 1) := by decide +kernel
theorem d_Trial_tryLine_193 : decode b_Trial_tryLine 193 = .ok (.invokevirtual 124, 3) := by decide +kernel
theorem d_Trial_tryLine_196 : decode b_Trial_tryLine 196 = .ok (.return_, 1) := by decide +kernel
theorem d_Lines_actionOf_0 : decode b_Lines_actionOf 0 = .ok (.aload_n 0, 1) := by decide +kernel
theorem d_Lines_actionOf_1 : decode b_Lines_actionOf 1 = .ok (.iload_n 1, 1) := by decide +kernel
theorem d_Lines_actionOf_2 : decode b_Lines_actionOf 2 = .ok (.invokevirtual 39, 3) := by decide +kernel
theorem d_Lines_actionOf_5 : decode b_Lines_actionOf 5 = .ok (.ifCond .eq 12, 3) := by decide +kernel
theorem d_Lines_actionOf_8 : decode b_Lines_actionOf 8 = .ok (.aload_n 0, 1) := by decide +kernel
theorem d_Lines_actionOf_9 : decode b_Lines_actionOf 9 = .ok (.getfield 15, 3) := by decide +kernel
theorem d_Lines_actionOf_12 : decode b_Lines_actionOf 12 = .ok (.iload_n 1, 1) := by decide +kernel
theorem d_Lines_actionOf_13 : decode b_Lines_actionOf 13 = .ok (.iaload, 1) := by decide +kernel
theorem d_Lines_actionOf_14 : decode b_Lines_actionOf 14 = .ok (.goto 4, 3) := by decide +kernel
theorem d_Lines_actionOf_17 : decode b_Lines_actionOf 17 = .ok (.iconst (-1), 1) := by decide +kernel
theorem d_Lines_actionOf_18 : decode b_Lines_actionOf 18 = .ok (.ireturn, 1) := by decide +kernel
theorem d_Report_note_0 : decode b_Report_note 0 = .ok (.aload_n 0, 1) := by decide +kernel
theorem d_Report_note_1 : decode b_Report_note 1 = .ok (.getfield 14, 3) := by decide +kernel
theorem d_Report_note_4 : decode b_Report_note 4 = .ok (.aload_n 1, 1) := by decide +kernel
theorem d_Report_note_5 : decode b_Report_note 5 = .ok (.getfield 45, 3) := by decide +kernel
theorem d_Report_note_8 : decode b_Report_note 8 = .ok (.invokevirtual 48, 3) := by decide +kernel
theorem d_Report_note_11 : decode b_Report_note 11 = .ok (.aload_n 0, 1) := by decide +kernel
theorem d_Report_note_12 : decode b_Report_note 12 = .ok (.getfield 20, 3) := by decide +kernel
theorem d_Report_note_15 : decode b_Report_note 15 = .ok (.aload_n 1, 1) := by decide +kernel
theorem d_Report_note_16 : decode b_Report_note 16 = .ok (.getfield 51, 3) := by decide +kernel
theorem d_Report_note_19 : decode b_Report_note 19 = .ok (.invokevirtual 48, 3) := by decide +kernel
theorem d_Report_note_22 : decode b_Report_note 22 = .ok (.aload_n 0, 1) := by decide +kernel
theorem d_Report_note_23 : decode b_Report_note 23 = .ok (.getfield 23, 3) := by decide +kernel
theorem d_Report_note_26 : decode b_Report_note 26 = .ok (.aload_n 1, 1) := by decide +kernel
theorem d_Report_note_27 : decode b_Report_note 27 = .ok (.getfield 52, 3) := by decide +kernel
theorem d_Report_note_30 : decode b_Report_note 30 = .ok (.invokevirtual 48, 3) := by decide +kernel
theorem d_Report_note_33 : decode b_Report_note 33 = .ok (.aload_n 1, 1) := by decide +kernel
theorem d_Report_note_34 : decode b_Report_note 34 = .ok (.getfield 51, 3) := by decide +kernel
theorem d_Report_note_37 : decode b_Report_note 37 = .ok (.ifCond .ne 21, 3) := by decide +kernel
theorem d_Report_note_40 : decode b_Report_note 40 = .ok (.aload_n 0, 1) := by decide +kernel
theorem d_Report_note_41 : decode b_Report_note 41 = .ok (.iload_n 2, 1) := by decide +kernel
theorem d_Report_note_42 : decode b_Report_note 42 = .ok (.putfield 29, 3) := by decide +kernel
theorem d_Report_note_45 : decode b_Report_note 45 = .ok (.aload_n 0, 1) := by decide +kernel
theorem d_Report_note_46 : decode b_Report_note 46 = .ok (.iconst 0, 1) := by decide +kernel
theorem d_Report_note_47 : decode b_Report_note 47 = .ok (.iconst (-1), 1) := by decide +kernel
theorem d_Report_note_48 : decode b_Report_note 48 = .ok (.aload_n 1, 1) := by decide +kernel
theorem d_Report_note_49 : decode b_Report_note 49 = .ok (.getfield 45, 3) := by decide +kernel
theorem d_Report_note_52 : decode b_Report_note 52 = .ok (.invokevirtual 53, 3) := by decide +kernel
theorem d_Report_note_55 : decode b_Report_note 55 = .ok (.goto 52, 3) := by decide +kernel
theorem d_Report_note_58 : decode b_Report_note 58 = .ok (.aload_n 1, 1) := by decide +kernel
theorem d_Report_note_59 : decode b_Report_note 59 = .ok (.getfield 51, 3) := by decide +kernel
theorem d_Report_note_62 : decode b_Report_note 62 = .ok (.aload_n 0, 1) := by decide +kernel
theorem d_Report_note_63 : decode b_Report_note 63 = .ok (.getfield 42, 3) := by decide +kernel
theorem d_Report_note_66 : decode b_Report_note 66 = .ok (.if_icmp .le 41, 3) := by decide +kernel
theorem d_Report_note_69 : decode b_Report_note 69 = .ok (.aload_n 0, 1) := by decide +kernel
theorem d_Report_note_70 : decode b_Report_note 70 = .ok (.aload_n 1, 1) := by decide +kernel
theorem d_Report_note_71 : decode b_Report_note 71 = .ok (.getfield 51, 3) := by decide +kernel
theorem d_Report_note_74 : decode b_Report_note 74 = .ok (.aload_n 1, 1) := by decide +kernel
theorem d_Report_note_75 : decode b_Report_note 75 = .ok (.getfield 52, 3) := by decide +kernel
theorem d_Report_note_78 : decode b_Report_note 78 = .ok (.aload_n 1, 1) := by decide +kernel
theorem d_Report_note_79 : decode b_Report_note 79 = .ok (.getfield 45, 3) := by decide +kernel
theorem d_Report_note_82 : decode b_Report_note 82 = .ok (.invokevirtual 53, 3) := by decide +kernel
theorem d_Report_note_85 : decode b_Report_note 85 = .ok (.aload_n 0, 1) := by decide +kernel
theorem d_Report_note_86 : decode b_Report_note 86 = .ok (.getfield 26, 3) := by decide +kernel
theorem d_Report_note_89 : decode b_Report_note 89 = .ok (.aload_n 1, 1) := by decide +kernel
theorem d_Report_note_90 : decode b_Report_note 90 = .ok (.getfield 57, 3) := by decide +kernel
theorem d_Report_note_93 : decode b_Report_note 93 = .ok (.invokevirtual 58, 3) := by decide +kernel
theorem d_Report_note_96 : decode b_Report_note 96 = .ok (.aload_n 0, 1) := by decide +kernel
theorem d_Report_note_97 : decode b_Report_note 97 = .ok (.aload_n 1, 1) := by decide +kernel
theorem d_Report_note_98 : decode b_Report_note 98 = .ok (.getfield 62, 3) := by decide +kernel
theorem d_Report_note_101 : decode b_Report_note 101 = .ok (.getfield 66, 3) := by decide +kernel
theorem d_Report_note_104 : decode b_Report_note 104 = .ok (.putfield 71, 3) := by decide +kernel
theorem d_Report_note_107 : decode b_Report_note 107 = .ok (.return_, 1) := by decide +kernel
theorem d_G_tryCommand_0 : decode b_G_tryCommand 0 = .ok (.aload_n 0, 1) := by decide +kernel
theorem d_G_tryCommand_1 : decode b_G_tryCommand 1 = .ok (.getfield 76, 3) := by decide +kernel
theorem d_G_tryCommand_4 : decode b_G_tryCommand 4 = .ok (.invokevirtual 182, 3) := by decide +kernel
theorem d_G_tryCommand_7 : decode b_G_tryCommand 7 = .ok (.aload_n 0, 1) := by decide +kernel
theorem d_G_tryCommand_8 : decode b_G_tryCommand 8 = .ok (.getfield 19, 3) := by decide +kernel
theorem d_G_tryCommand_11 : decode b_G_tryCommand 11 = .ok (.aload_n 0, 1) := by decide +kernel
theorem d_G_tryCommand_12 : decode b_G_tryCommand 12 = .ok (.getfield 46, 3) := by decide +kernel
theorem d_G_tryCommand_15 : decode b_G_tryCommand 15 = .ok (.iconst 0, 1) := by decide +kernel
theorem d_G_tryCommand_16 : decode b_G_tryCommand 16 = .ok (.invokevirtual 207, 3) := by decide +kernel
theorem d_G_tryCommand_19 : decode b_G_tryCommand 19 = .ok (.invokevirtual 192, 3) := by decide +kernel
theorem d_G_tryCommand_22 : decode b_G_tryCommand 22 = .ok (.istore_n 1, 1) := by decide +kernel
theorem d_G_tryCommand_23 : decode b_G_tryCommand 23 = .ok (.iconst 0, 1) := by decide +kernel
theorem d_G_tryCommand_24 : decode b_G_tryCommand 24 = .ok (.istore_n 2, 1) := by decide +kernel
theorem d_G_tryCommand_25 : decode b_G_tryCommand 25 = .ok (.iload_n 2, 1) := by decide +kernel
theorem d_G_tryCommand_26 : decode b_G_tryCommand 26 = .ok (.aload_n 0, 1) := by decide +kernel
theorem d_G_tryCommand_27 : decode b_G_tryCommand 27 = .ok (.getfield 26, 3) := by decide +kernel
theorem d_G_tryCommand_30 : decode b_G_tryCommand 30 = .ok (.invokevirtual 247, 3) := by decide +kernel
theorem d_G_tryCommand_33 : decode b_G_tryCommand 33 = .ok (.if_icmp .ge 64, 3) := by decide +kernel
theorem d_G_tryCommand_36 : decode b_G_tryCommand 36 = .ok (.aload_n 0, 1) := by decide +kernel
theorem d_G_tryCommand_37 : decode b_G_tryCommand 37 = .ok (.getfield 76, 3) := by decide +kernel
theorem d_G_tryCommand_40 : decode b_G_tryCommand 40 = .ok (.getfield 210, 3) := by decide +kernel
theorem d_G_tryCommand_43 : decode b_G_tryCommand 43 = .ok (.iconst (-1), 1) := by decide +kernel
theorem d_G_tryCommand_44 : decode b_G_tryCommand 44 = .ok (.if_icmp .ne 53, 3) := by decide +kernel
theorem d_G_tryCommand_47 : decode b_G_tryCommand 47 = .ok (.iload_n 1, 1) := by decide +kernel
theorem d_G_tryCommand_48 : decode b_G_tryCommand 48 = .ok (.iconst (-1), 1) := by decide +kernel
theorem d_G_tryCommand_49 : decode b_G_tryCommand 49 = .ok (.if_icmp .eq 42, 3) := by decide +kernel
theorem d_G_tryCommand_52 : decode b_G_tryCommand 52 = .ok (.aload_n 0, 1) := by decide +kernel
theorem d_G_tryCommand_53 : decode b_G_tryCommand 53 = .ok (.getfield 26, 3) := by decide +kernel
theorem d_G_tryCommand_56 : decode b_G_tryCommand 56 = .ok (.iload_n 2, 1) := by decide +kernel
theorem d_G_tryCommand_57 : decode b_G_tryCommand 57 = .ok (.invokevirtual 292, 3) := by decide +kernel
theorem d_G_tryCommand_60 : decode b_G_tryCommand 60 = .ok (.iload_n 1, 1) := by decide +kernel
theorem d_G_tryCommand_61 : decode b_G_tryCommand 61 = .ok (.if_icmp .ne 30, 3) := by decide +kernel
theorem d_G_tryCommand_64 : decode b_G_tryCommand 64 = .ok (.aload_n 0, 1) := by decide +kernel
theorem d_G_tryCommand_65 : decode b_G_tryCommand 65 = .ok (.getfield 69, 3) := by decide +kernel
theorem d_G_tryCommand_68 : decode b_G_tryCommand 68 = .ok (.iload_n 2, 1) := by decide +kernel
theorem d_G_tryCommand_69 : decode b_G_tryCommand 69 = .ok (.invokevirtual 295, 3) := by decide +kernel
theorem d_G_tryCommand_72 : decode b_G_tryCommand 72 = .ok (.aload_n 0, 1) := by decide +kernel
theorem d_G_tryCommand_73 : decode b_G_tryCommand 73 = .ok (.getfield 76, 3) := by decide +kernel
theorem d_G_tryCommand_76 : decode b_G_tryCommand 76 = .ok (.aload_n 0, 1) := by decide +kernel
theorem d_G_tryCommand_77 : decode b_G_tryCommand 77 = .ok (.getfield 69, 3) := by decide +kernel
theorem d_G_tryCommand_80 : decode b_G_tryCommand 80 = .ok (.aload_n 0, 1) := by decide +kernel
theorem d_G_tryCommand_81 : decode b_G_tryCommand 81 = .ok (.getfield 26, 3) := by decide +kernel
theorem d_G_tryCommand_84 : decode b_G_tryCommand 84 = .ok (.iload_n 2, 1) := by decide +kernel
theorem d_G_tryCommand_85 : decode b_G_tryCommand 85 = .ok (.invokevirtual 298, 3) := by decide +kernel
theorem d_G_tryCommand_88 : decode b_G_tryCommand 88 = .ok (.invokevirtual 301, 3) := by decide +kernel
theorem d_G_tryCommand_91 : decode b_G_tryCommand 91 = .ok (.iinc 2 1, 3) := by decide +kernel
theorem d_G_tryCommand_94 : decode b_G_tryCommand 94 = .ok (.goto (-69), 3) := by decide +kernel
theorem d_G_tryCommand_97 : decode b_G_tryCommand 97 = .ok (.aload_n 0, 1) := by decide +kernel
theorem d_G_tryCommand_98 : decode b_G_tryCommand 98 = .ok (.getfield 76, 3) := by decide +kernel
theorem d_G_tryCommand_101 : decode b_G_tryCommand 101 = .ok (.getfield 243, 3) := by decide +kernel
theorem d_G_tryCommand_104 : decode b_G_tryCommand 104 = .ok (.invokevirtual 162, 3) := by decide +kernel
theorem d_G_tryCommand_107 : decode b_G_tryCommand 107 = .ok (.ifCond .ne 13, 3) := by decide +kernel
theorem d_G_tryCommand_110 : decode b_G_tryCommand 110 = .ok (.aload_n 0, 1) := by decide +kernel
theorem d_G_tryCommand_111 : decode b_G_tryCommand 111 = .ok (.getfield 76, 3) := by decide +kernel
theorem d_G_tryCommand_114 : decode b_G_tryCommand 114 = .ok (.iconst 2, 1) := by decide +kernel
theorem d_G_tryCommand_115 : decode b_G_tryCommand 115 = .ok (.iconst 0, 1) := by decide +kernel
theorem d_G_tryCommand_116 : decode b_G_tryCommand 116 = .ok (.iconst (-1), 1) := by decide +kernel
theorem d_G_tryCommand_117 : decode b_G_tryCommand 117 = .ok (.invokevirtual 185, 3) := by decide +kernel
theorem d_G_tryCommand_120 : decode b_G_tryCommand 120 = .ok (.aload_n 0, 1) := by decide +kernel
theorem d_G_tryCommand_121 : decode b_G_tryCommand 121 = .ok (.getfield 76, 3) := by decide +kernel
theorem d_G_tryCommand_124 : decode b_G_tryCommand 124 = .ok (.getfield 210, 3) := by decide +kernel
theorem d_G_tryCommand_127 : decode b_G_tryCommand 127 = .ok (.iconst (-1), 1) := by decide +kernel
theorem d_G_tryCommand_128 : decode b_G_tryCommand 128 = .ok (.if_icmp .eq 30, 3) := by decide +kernel
theorem d_G_tryCommand_131 : decode b_G_tryCommand 131 = .ok (.aload_n 0, 1) := by decide +kernel
theorem d_G_tryCommand_132 : decode b_G_tryCommand 132 = .ok (.getfield 52, 3) := by decide +kernel
theorem d_G_tryCommand_135 : decode b_G_tryCommand 135 = .ok (.aload_n 0, 1) := by decide +kernel
theorem d_G_tryCommand_136 : decode b_G_tryCommand 136 = .ok (.getfield 46, 3) := by decide +kernel
theorem d_G_tryCommand_139 : decode b_G_tryCommand 139 = .ok (.invokevirtual 288, 3) := by decide +kernel
theorem d_G_tryCommand_142 : decode b_G_tryCommand 142 = .ok (.aload_n 0, 1) := by decide +kernel
theorem d_G_tryCommand_143 : decode b_G_tryCommand 143 = .ok (.aload_n 0, 1) := by decide +kernel
theorem d_G_tryCommand_144 : decode b_G_tryCommand 144 = .ok (.getfield 80, 3) := by decide +kernel
theorem d_G_tryCommand_147 : decode b_G_tryCommand 147 = .ok (.putfield 84, 3) := by decide +kernel
theorem d_G_tryCommand_150 : decode b_G_tryCommand 150 = .ok (.aload_n 0, 1) := by decide +kernel
theorem d_G_tryCommand_151 : decode b_G_tryCommand 151 = .ok (.getfield 76, 3) := by decide +kernel
theorem d_G_tryCommand_154 : decode b_G_tryCommand 154 = .ok (.getfield 210, 3) := by decide +kernel
theorem d_G_tryCommand_157 : decode b_G_tryCommand 157 = .ok (.ireturn, 1) := by decide +kernel
theorem d_G_tryCommand_158 : decode b_G_tryCommand 158 = .ok (.aload_n 0, 1) := by decide +kernel
theorem d_G_tryCommand_159 : decode b_G_tryCommand 159 = .ok (.getfield 76, 3) := by decide +kernel
theorem d_G_tryCommand_162 : decode b_G_tryCommand 162 = .ok (.invokevirtual 189, 3) := by decide +kernel
theorem d_G_tryCommand_165 : decode b_G_tryCommand 165 = .ok (.ifCond .eq 5, 3) := by decide +kernel
theorem d_G_tryCommand_168 : decode b_G_tryCommand 168 = .ok (.iconst 0, 1) := by decide +kernel
theorem d_G_tryCommand_169 : decode b_G_tryCommand 169 = .ok (.ireturn, 1) := by decide +kernel
theorem d_G_tryCommand_170 : decode b_G_tryCommand 170 = .ok (.aload_n 0, 1) := by decide +kernel
theorem d_G_tryCommand_171 : decode b_G_tryCommand 171 = .ok (.getfield 42, 3) := by decide +kernel
theorem d_G_tryCommand_174 : decode b_G_tryCommand 174 = .ok (.invokevirtual 167, 3) := by decide +kernel
theorem d_G_tryCommand_177 : decode b_G_tryCommand 177 = .ok (.aload_n 0, 1) := by decide +kernel
theorem d_G_tryCommand_178 : decode b_G_tryCommand 178 = .ok (.getfield 76, 3) := by decide +kernel
theorem d_G_tryCommand_181 : decode b_G_tryCommand 181 = .ok (.getfield 194, 3) := by decide +kernel
theorem d_G_tryCommand_184 : decode b_G_tryCommand 184 = .ok (.ineg, 1) := by decide +kernel
theorem d_G_tryCommand_185 : decode b_G_tryCommand 185 = .ok (.ireturn, 1) := by decide +kernel
theorem d_G_parse_0 : decode b_G_parse 0 = .ok (.aload_n 0, 1) := by decide +kernel
theorem d_G_parse_1 : decode b_G_parse 1 = .ok (.invokevirtual 170, 3) := by decide +kernel
theorem d_G_parse_4 : decode b_G_parse 4 = .ok (.istore_n 1, 1) := by decide +kernel
theorem d_G_parse_5 : decode b_G_parse 5 = .ok (.aload_n 0, 1) := by decide +kernel
theorem d_G_parse_6 : decode b_G_parse 6 = .ok (.invokevirtual 173, 3) := by decide +kernel
theorem d_G_parse_9 : decode b_G_parse 9 = .ok (.aload_n 0, 1) := by decide +kernel
theorem d_G_parse_10 : decode b_G_parse 10 = .ok (.iload_n 1, 1) := by decide +kernel
theorem d_G_parse_11 : decode b_G_parse 11 = .ok (.invokevirtual 176, 3) := by decide +kernel
theorem d_G_parse_14 : decode b_G_parse 14 = .ok (.istore_n 2, 1) := by decide +kernel
theorem d_G_parse_15 : decode b_G_parse 15 = .ok (.iload_n 2, 1) := by decide +kernel
theorem d_G_parse_16 : decode b_G_parse 16 = .ok (.ifCond .ne 8, 3) := by decide +kernel
theorem d_G_parse_19 : decode b_G_parse 19 = .ok (.aload_n 0, 1) := by decide +kernel
theorem d_G_parse_20 : decode b_G_parse 20 = .ok (.invokevirtual 179, 3) := by decide +kernel
theorem d_G_parse_23 : decode b_G_parse 23 = .ok (.ireturn, 1) := by decide +kernel
theorem d_G_parse_24 : decode b_G_parse 24 = .ok (.aload_n 0, 1) := by decide +kernel
theorem d_G_parse_25 : decode b_G_parse 25 = .ok (.getfield 76, 3) := by decide +kernel
theorem d_G_parse_28 : decode b_G_parse 28 = .ok (.invokevirtual 182, 3) := by decide +kernel
theorem d_G_parse_31 : decode b_G_parse 31 = .ok (.aload_n 0, 1) := by decide +kernel
theorem d_G_parse_32 : decode b_G_parse 32 = .ok (.getfield 76, 3) := by decide +kernel
theorem d_G_parse_35 : decode b_G_parse 35 = .ok (.iload_n 2, 1) := by decide +kernel
theorem d_G_parse_36 : decode b_G_parse 36 = .ok (.iconst (-1), 1) := by decide +kernel
theorem d_G_parse_37 : decode b_G_parse 37 = .ok (.iconst (-1), 1) := by decide +kernel
theorem d_G_parse_38 : decode b_G_parse 38 = .ok (.invokevirtual 185, 3) := by decide +kernel
theorem d_G_parse_41 : decode b_G_parse 41 = .ok (.aload_n 0, 1) := by decide +kernel
theorem d_G_parse_42 : decode b_G_parse 42 = .ok (.getfield 42, 3) := by decide +kernel
theorem d_G_parse_45 : decode b_G_parse 45 = .ok (.invokevirtual 167, 3) := by decide +kernel
theorem d_G_parse_48 : decode b_G_parse 48 = .ok (.iload_n 2, 1) := by decide +kernel
theorem d_G_parse_49 : decode b_G_parse 49 = .ok (.ineg, 1) := by decide +kernel
theorem d_G_parse_50 : decode b_G_parse 50 = .ok (.ireturn, 1) := by decide +kernel
theorem d_Row_insert_0 : decode b_Row_insert 0 = .ok (.iload_n 1, 1) := by decide +kernel
theorem d_Row_insert_1 : decode b_Row_insert 1 = .ok (.ifCond .lt 23, 3) := by decide +kernel
theorem d_Row_insert_4 : decode b_Row_insert 4 = .ok (.iload_n 1, 1) := by decide +kernel
theorem d_Row_insert_5 : decode b_Row_insert 5 = .ok (.aload_n 0, 1) := by decide +kernel
theorem d_Row_insert_6 : decode b_Row_insert 6 = .ok (.getfield 21, 3) := by decide +kernel
theorem d_Row_insert_9 : decode b_Row_insert 9 = .ok (.if_icmp .gt 15, 3) := by decide +kernel
theorem d_Row_insert_12 : decode b_Row_insert 12 = .ok (.aload_n 0, 1) := by decide +kernel
theorem d_Row_insert_13 : decode b_Row_insert 13 = .ok (.getfield 21, 3) := by decide +kernel
theorem d_Row_insert_16 : decode b_Row_insert 16 = .ok (.aload_n 0, 1) := by decide +kernel
theorem d_Row_insert_17 : decode b_Row_insert 17 = .ok (.getfield 15, 3) := by decide +kernel
theorem d_Row_insert_20 : decode b_Row_insert 20 = .ok (.arraylength, 1) := by decide +kernel
theorem d_Row_insert_21 : decode b_Row_insert 21 = .ok (.if_icmp .lt 4, 3) := by decide +kernel
theorem d_Row_insert_24 : decode b_Row_insert 24 = .ok (.return_, 1) := by decide +kernel
theorem d_Row_insert_25 : decode b_Row_insert 25 = .ok (.aload_n 0, 1) := by decide +kernel
theorem d_Row_insert_26 : decode b_Row_insert 26 = .ok (.getfield 21, 3) := by decide +kernel
theorem d_Row_insert_29 : decode b_Row_insert 29 = .ok (.istore_n 3, 1) := by decide +kernel
theorem d_Row_insert_30 : decode b_Row_insert 30 = .ok (.iload_n 3, 1) := by decide +kernel
theorem d_Row_insert_31 : decode b_Row_insert 31 = .ok (.iload_n 1, 1) := by decide +kernel
theorem d_Row_insert_32 : decode b_Row_insert 32 = .ok (.if_icmp .le 23, 3) := by decide +kernel
theorem d_Row_insert_35 : decode b_Row_insert 35 = .ok (.aload_n 0, 1) := by decide +kernel
theorem d_Row_insert_36 : decode b_Row_insert 36 = .ok (.getfield 15, 3) := by decide +kernel
theorem d_Row_insert_39 : decode b_Row_insert 39 = .ok (.iload_n 3, 1) := by decide +kernel
theorem d_Row_insert_40 : decode b_Row_insert 40 = .ok (.aload_n 0, 1) := by decide +kernel
theorem d_Row_insert_41 : decode b_Row_insert 41 = .ok (.getfield 15, 3) := by decide +kernel
theorem d_Row_insert_44 : decode b_Row_insert 44 = .ok (.iload_n 3, 1) := by decide +kernel
theorem d_Row_insert_45 : decode b_Row_insert 45 = .ok (.iconst 1, 1) := by decide +kernel
theorem d_Row_insert_46 : decode b_Row_insert 46 = .ok (.isub, 1) := by decide +kernel
theorem d_Row_insert_47 : decode b_Row_insert 47 = .ok (.iaload, 1) := by decide +kernel
theorem d_Row_insert_48 : decode b_Row_insert 48 = .ok (.iastore, 1) := by decide +kernel
theorem d_Row_insert_49 : decode b_Row_insert 49 = .ok (.iinc 3 (-1), 3) := by decide +kernel
theorem d_Row_insert_52 : decode b_Row_insert 52 = .ok (.goto (-22), 3) := by decide +kernel
theorem d_Row_insert_55 : decode b_Row_insert 55 = .ok (.aload_n 0, 1) := by decide +kernel
theorem d_Row_insert_56 : decode b_Row_insert 56 = .ok (.getfield 15, 3) := by decide +kernel
theorem d_Row_insert_59 : decode b_Row_insert 59 = .ok (.iload_n 1, 1) := by decide +kernel
theorem d_Row_insert_60 : decode b_Row_insert 60 = .ok (.iload_n 2, 1) := by decide +kernel
theorem d_Row_insert_61 : decode b_Row_insert 61 = .ok (.iastore, 1) := by decide +kernel
theorem d_Row_insert_62 : decode b_Row_insert 62 = .ok (.aload_n 0, 1) := by decide +kernel
theorem d_Row_insert_63 : decode b_Row_insert 63 = .ok (.dup, 1) := by decide +kernel
theorem d_Row_insert_64 : decode b_Row_insert 64 = .ok (.getfield 21, 3) := by decide +kernel
theorem d_Row_insert_67 : decode b_Row_insert 67 = .ok (.iconst 1, 1) := by decide +kernel
theorem d_Row_insert_68 : decode b_Row_insert 68 = .ok (.iadd, 1) := by decide +kernel
theorem d_Row_insert_69 : decode b_Row_insert 69 = .ok (.putfield 21, 3) := by decide +kernel
theorem d_Row_insert_72 : decode b_Row_insert 72 = .ok (.return_, 1) := by decide +kernel
theorem d_G_answer_0 : decode b_G_answer 0 = .ok (.iload_n 1, 1) := by decide +kernel
theorem d_G_answer_1 : decode b_G_answer 1 = .ok (.invokestatic 159, 3) := by decide +kernel
theorem d_G_answer_4 : decode b_G_answer 4 = .ok (.ifCond .ne 6, 3) := by decide +kernel
theorem d_G_answer_7 : decode b_G_answer 7 = .ok (.bipush (-102), 2) := by decide +kernel
theorem d_G_answer_9 : decode b_G_answer 9 = .ok (.ireturn, 1) := by decide +kernel
theorem d_G_answer_10 : decode b_G_answer 10 = .ok (.aload_n 0, 1) := by decide +kernel
theorem d_G_answer_11 : decode b_G_answer 11 = .ok (.getfield 76, 3) := by decide +kernel
theorem d_G_answer_14 : decode b_G_answer 14 = .ok (.invokevirtual 189, 3) := by decide +kernel
theorem d_G_answer_17 : decode b_G_answer 17 = .ok (.ifCond .ne 6, 3) := by decide +kernel
theorem d_G_answer_20 : decode b_G_answer 20 = .ok (.bipush (-103), 2) := by decide +kernel
theorem d_G_answer_22 : decode b_G_answer 22 = .ok (.ireturn, 1) := by decide +kernel
theorem d_G_answer_23 : decode b_G_answer 23 = .ok (.aload_n 0, 1) := by decide +kernel
theorem d_G_answer_24 : decode b_G_answer 24 = .ok (.getfield 19, 3) := by decide +kernel
theorem d_G_answer_27 : decode b_G_answer 27 = .ok (.iload_n 1, 1) := by decide +kernel
theorem d_G_answer_28 : decode b_G_answer 28 = .ok (.invokevirtual 192, 3) := by decide +kernel
theorem d_G_answer_31 : decode b_G_answer 31 = .ok (.iconst (-1), 1) := by decide +kernel
theorem d_G_answer_32 : decode b_G_answer 32 = .ok (.if_icmp .eq 35, 3) := by decide +kernel
theorem d_G_answer_35 : decode b_G_answer 35 = .ok (.aload_n 0, 1) := by decide +kernel
theorem d_G_answer_36 : decode b_G_answer 36 = .ok (.getfield 42, 3) := by decide +kernel
theorem d_G_answer_39 : decode b_G_answer 39 = .ok (.invokevirtual 167, 3) := by decide +kernel
theorem d_G_answer_42 : decode b_G_answer 42 = .ok (.aload_n 0, 1) := by decide +kernel
theorem d_G_answer_43 : decode b_G_answer 43 = .ok (.getfield 46, 3) := by decide +kernel
theorem d_G_answer_46 : decode b_G_answer 46 = .ok (.invokevirtual 167, 3) := by decide +kernel
theorem d_G_answer_49 : decode b_G_answer 49 = .ok (.aload_n 0, 1) := by decide +kernel
theorem d_G_answer_50 : decode b_G_answer 50 = .ok (.getfield 46, 3) := by decide +kernel
theorem d_G_answer_53 : decode b_G_answer 53 = .ok (.iload_n 1, 1) := by decide +kernel
theorem d_G_answer_54 : decode b_G_answer 54 = .ok (.invokevirtual 165, 3) := by decide +kernel
theorem d_G_answer_57 : decode b_G_answer 57 = .ok (.aload_n 0, 1) := by decide +kernel
theorem d_G_answer_58 : decode b_G_answer 58 = .ok (.iconst (-1), 1) := by decide +kernel
theorem d_G_answer_59 : decode b_G_answer 59 = .ok (.putfield 80, 3) := by decide +kernel
theorem d_G_answer_62 : decode b_G_answer 62 = .ok (.aload_n 0, 1) := by decide +kernel
theorem d_G_answer_63 : decode b_G_answer 63 = .ok (.invokevirtual 179, 3) := by decide +kernel
theorem d_G_answer_66 : decode b_G_answer 66 = .ok (.ireturn, 1) := by decide +kernel
theorem d_G_answer_67 : decode b_G_answer 67 = .ok (.aload_n 0, 1) := by decide +kernel
theorem d_G_answer_68 : decode b_G_answer 68 = .ok (.getfield 76, 3) := by decide +kernel
theorem d_G_answer_71 : decode b_G_answer 71 = .ok (.getfield 194, 3) := by decide +kernel
theorem d_G_answer_74 : decode b_G_answer 74 = .ok (.bipush 16, 2) := by decide +kernel
theorem d_G_answer_76 : decode b_G_answer 76 = .ok (.if_icmp .ne 18, 3) := by decide +kernel
theorem d_G_answer_79 : decode b_G_answer 79 = .ok (.aload_n 0, 1) := by decide +kernel
theorem d_G_answer_80 : decode b_G_answer 80 = .ok (.getfield 76, 3) := by decide +kernel
theorem d_G_answer_83 : decode b_G_answer 83 = .ok (.getfield 197, 3) := by decide +kernel
theorem d_G_answer_86 : decode b_G_answer 86 = .ok (.invokevirtual 162, 3) := by decide +kernel
theorem d_G_answer_89 : decode b_G_answer 89 = .ok (.iconst 1, 1) := by decide +kernel
theorem d_G_answer_90 : decode b_G_answer 90 = .ok (.isub, 1) := by decide +kernel
theorem d_G_answer_91 : decode b_G_answer 91 = .ok (.goto 4, 3) := by decide +kernel
theorem d_G_answer_94 : decode b_G_answer 94 = .ok (.iconst 0, 1) := by decide +kernel
theorem d_G_answer_95 : decode b_G_answer 95 = .ok (.istore_n 2, 1) := by decide +kernel
theorem d_G_answer_96 : decode b_G_answer 96 = .ok (.aload_n 0, 1) := by decide +kernel
theorem d_G_answer_97 : decode b_G_answer 97 = .ok (.getfield 46, 3) := by decide +kernel
theorem d_G_answer_100 : decode b_G_answer 100 = .ok (.invokevirtual 162, 3) := by decide +kernel
theorem d_G_answer_103 : decode b_G_answer 103 = .ok (.iload_n 2, 1) := by decide +kernel
theorem d_G_answer_104 : decode b_G_answer 104 = .ok (.iadd, 1) := by decide +kernel
theorem d_G_answer_105 : decode b_G_answer 105 = .ok (.iconst 1, 1) := by decide +kernel
theorem d_G_answer_106 : decode b_G_answer 106 = .ok (.iadd, 1) := by decide +kernel
theorem d_G_answer_107 : decode b_G_answer 107 = .ok (.bipush 60, 2) := by decide +kernel
theorem d_G_answer_109 : decode b_G_answer 109 = .ok (.if_icmp .le 6, 3) := by decide +kernel
theorem d_G_answer_112 : decode b_G_answer 112 = .ok (.bipush (-104), 2) := by decide +kernel
theorem d_G_answer_114 : decode b_G_answer 114 = .ok (.ireturn, 1) := by decide +kernel
theorem d_G_answer_115 : decode b_G_answer 115 = .ok (.aload_n 0, 1) := by decide +kernel
theorem d_G_answer_116 : decode b_G_answer 116 = .ok (.getfield 76, 3) := by decide +kernel
theorem d_G_answer_119 : decode b_G_answer 119 = .ok (.getfield 194, 3) := by decide +kernel
theorem d_G_answer_122 : decode b_G_answer 122 = .ok (.bipush 15, 2) := by decide +kernel
theorem d_G_answer_124 : decode b_G_answer 124 = .ok (.if_icmp .ne 21, 3) := by decide +kernel
theorem d_G_answer_127 : decode b_G_answer 127 = .ok (.aload_n 0, 1) := by decide +kernel
theorem d_G_answer_128 : decode b_G_answer 128 = .ok (.getfield 46, 3) := by decide +kernel
theorem d_G_answer_131 : decode b_G_answer 131 = .ok (.aload_n 0, 1) := by decide +kernel
theorem d_G_answer_132 : decode b_G_answer 132 = .ok (.getfield 76, 3) := by decide +kernel
theorem d_G_answer_135 : decode b_G_answer 135 = .ok (.getfield 200, 3) := by decide +kernel
theorem d_G_answer_138 : decode b_G_answer 138 = .ok (.iload_n 1, 1) := by decide +kernel
theorem d_G_answer_139 : decode b_G_answer 139 = .ok (.invokevirtual 203, 3) := by decide +kernel
theorem d_G_answer_142 : decode b_G_answer 142 = .ok (.goto 42, 3) := by decide +kernel
theorem d_G_answer_145 : decode b_G_answer 145 = .ok (.iconst 1, 1) := by decide +kernel
theorem d_G_answer_146 : decode b_G_answer 146 = .ok (.istore_n 3, 1) := by decide +kernel
theorem d_G_answer_147 : decode b_G_answer 147 = .ok (.iload_n 3, 1) := by decide +kernel
theorem d_G_answer_148 : decode b_G_answer 148 = .ok (.iload_n 2, 1) := by decide +kernel
theorem d_G_answer_149 : decode b_G_answer 149 = .ok (.if_icmp .gt 27, 3) := by decide +kernel
theorem d_G_answer_152 : decode b_G_answer 152 = .ok (.aload_n 0, 1) := by decide +kernel
theorem d_G_answer_153 : decode b_G_answer 153 = .ok (.getfield 46, 3) := by decide +kernel
theorem d_G_answer_156 : decode b_G_answer 156 = .ok (.aload_n 0, 1) := by decide +kernel
theorem d_G_answer_157 : decode b_G_answer 157 = .ok (.getfield 76, 3) := by decide +kernel
theorem d_G_answer_160 : decode b_G_answer 160 = .ok (.getfield 197, 3) := by decide +kernel
theorem d_G_answer_163 : decode b_G_answer 163 = .ok (.iload_n 3, 1) := by decide +kernel
theorem d_G_answer_164 : decode b_G_answer 164 = .ok (.invokevirtual 207, 3) := by decide +kernel
theorem d_G_answer_167 : decode b_G_answer 167 = .ok (.invokevirtual 165, 3) := by decide +kernel
theorem d_G_answer_170 : decode b_G_answer 170 = .ok (.iinc 3 1, 3) := by decide +kernel
theorem d_G_answer_173 : decode b_G_answer 173 = .ok (.goto (-26), 3) := by decide +kernel
theorem d_G_answer_176 : decode b_G_answer 176 = .ok (.aload_n 0, 1) := by decide +kernel
theorem d_G_answer_177 : decode b_G_answer 177 = .ok (.getfield 46, 3) := by decide +kernel
theorem d_G_answer_180 : decode b_G_answer 180 = .ok (.iload_n 1, 1) := by decide +kernel
theorem d_G_answer_181 : decode b_G_answer 181 = .ok (.invokevirtual 165, 3) := by decide +kernel
theorem d_G_answer_184 : decode b_G_answer 184 = .ok (.aload_n 0, 1) := by decide +kernel
theorem d_G_answer_185 : decode b_G_answer 185 = .ok (.invokevirtual 179, 3) := by decide +kernel
theorem d_G_answer_188 : decode b_G_answer 188 = .ok (.ireturn, 1) := by decide +kernel
theorem d_Lines_isReversed_0 : decode b_Lines_isReversed 0 = .ok (.aload_n 0, 1) := by decide +kernel
theorem d_Lines_isReversed_1 : decode b_Lines_isReversed 1 = .ok (.iload_n 1, 1) := by decide +kernel
theorem d_Lines_isReversed_2 : decode b_Lines_isReversed 2 = .ok (.invokevirtual 39, 3) := by decide +kernel
theorem d_Lines_isReversed_5 : decode b_Lines_isReversed 5 = .ok (.ifCond .eq 16, 3) := by decide +kernel
theorem d_Lines_isReversed_8 : decode b_Lines_isReversed 8 = .ok (.aload_n 0, 1) := by decide +kernel
theorem d_Lines_isReversed_9 : decode b_Lines_isReversed 9 = .ok (.getfield 18, 3) := by decide +kernel
theorem d_Lines_isReversed_12 : decode b_Lines_isReversed 12 = .ok (.iload_n 1, 1) := by decide +kernel
theorem d_Lines_isReversed_13 : decode b_Lines_isReversed 13 = .ok (.baload, 1) := by decide +kernel
theorem d_Lines_isReversed_14 : decode b_Lines_isReversed 14 = .ok (.ifCond .eq 7, 3) := by decide +kernel
theorem d_Lines_isReversed_17 : decode b_Lines_isReversed 17 = .ok (.iconst 1, 1) := by decide +kernel
theorem d_Lines_isReversed_18 : decode b_Lines_isReversed 18 = .ok (.goto 4, 3) := by decide +kernel
theorem d_Lines_isReversed_21 : decode b_Lines_isReversed 21 = .ok (.iconst 0, 1) := by decide +kernel
theorem d_Lines_isReversed_22 : decode b_Lines_isReversed 22 = .ok (.ireturn, 1) := by decide +kernel
theorem d_Trial_slotsTaken_0 : decode b_Trial_slotsTaken 0 = .ok (.aload_n 0, 1) := by decide +kernel
theorem d_Trial_slotsTaken_1 : decode b_Trial_slotsTaken 1 = .ok (.getfield 12, 3) := by decide +kernel
theorem d_Trial_slotsTaken_4 : decode b_Trial_slotsTaken 4 = .ok (.getfield 64, 3) := by decide +kernel
theorem d_Trial_slotsTaken_7 : decode b_Trial_slotsTaken 7 = .ok (.iconst (-1), 1) := by decide +kernel
theorem d_Trial_slotsTaken_8 : decode b_Trial_slotsTaken 8 = .ok (.if_icmp .ne 7, 3) := by decide +kernel
theorem d_Trial_slotsTaken_11 : decode b_Trial_slotsTaken 11 = .ok (.iconst 0, 1) := by decide +kernel
theorem d_Trial_slotsTaken_12 : decode b_Trial_slotsTaken 12 = .ok (.goto 4, 3) := by decide +kernel
theorem d_Trial_slotsTaken_15 : decode b_Trial_slotsTaken 15 = .ok (.iconst 1, 1) := by decide +kernel
theorem d_Trial_slotsTaken_16 : decode b_Trial_slotsTaken 16 = .ok (.aload_n 0, 1) := by decide +kernel
theorem d_Trial_slotsTaken_17 : decode b_Trial_slotsTaken 17 = .ok (.getfield 18, 3) := by decide +kernel
theorem d_Trial_slotsTaken_20 : decode b_Trial_slotsTaken 20 = .ok (.getfield 64, 3) := by decide +kernel
theorem d_Trial_slotsTaken_23 : decode b_Trial_slotsTaken 23 = .ok (.iconst (-1), 1) := by decide +kernel
theorem d_Trial_slotsTaken_24 : decode b_Trial_slotsTaken 24 = .ok (.if_icmp .ne 7, 3) := by decide +kernel
theorem d_Trial_slotsTaken_27 : decode b_Trial_slotsTaken 27 = .ok (.iconst 0, 1) := by decide +kernel
theorem d_Trial_slotsTaken_28 : decode b_Trial_slotsTaken 28 = .ok (.goto 4, 3) := by decide +kernel
theorem d_Trial_slotsTaken_31 : decode b_Trial_slotsTaken 31 = .ok (.iconst 1, 1) := by decide +kernel
theorem d_Trial_slotsTaken_32 : decode b_Trial_slotsTaken 32 = .ok (.iadd, 1) := by decide +kernel
theorem d_Trial_slotsTaken_33 : decode b_Trial_slotsTaken 33 = .ok (.ireturn, 1) := by decide +kernel
theorem d_G_object_0 : decode b_G_object 0 = .ok (.iload_n 1, 1) := by decide +kernel
theorem d_G_object_1 : decode b_G_object 1 = .ok (.ifCond .lt 19, 3) := by decide +kernel
theorem d_G_object_4 : decode b_G_object 4 = .ok (.iload_n 1, 1) := by decide +kernel
theorem d_G_object_5 : decode b_G_object 5 = .ok (.iconst 2, 1) := by decide +kernel
theorem d_G_object_6 : decode b_G_object 6 = .ok (.if_icmp .ge 14, 3) := by decide +kernel
theorem d_G_object_9 : decode b_G_object 9 = .ok (.aload_n 0, 1) := by decide +kernel
theorem d_G_object_10 : decode b_G_object 10 = .ok (.getfield 76, 3) := by decide +kernel
theorem d_G_object_13 : decode b_G_object 13 = .ok (.getfield 210, 3) := by decide +kernel
theorem d_G_object_16 : decode b_G_object 16 = .ok (.iconst (-1), 1) := by decide +kernel
theorem d_G_object_17 : decode b_G_object 17 = .ok (.if_icmp .ne 5, 3) := by decide +kernel
theorem d_G_object_20 : decode b_G_object 20 = .ok (.iconst (-1), 1) := by decide +kernel
theorem d_G_object_21 : decode b_G_object 21 = .ok (.ireturn, 1) := by decide +kernel
theorem d_G_object_22 : decode b_G_object 22 = .ok (.aload_n 0, 1) := by decide +kernel
theorem d_G_object_23 : decode b_G_object 23 = .ok (.getfield 26, 3) := by decide +kernel
theorem d_G_object_26 : decode b_G_object 26 = .ok (.aload_n 0, 1) := by decide +kernel
theorem d_G_object_27 : decode b_G_object 27 = .ok (.getfield 76, 3) := by decide +kernel
theorem d_G_object_30 : decode b_G_object 30 = .ok (.getfield 213, 3) := by decide +kernel
theorem d_G_object_33 : decode b_G_object 33 = .ok (.invokevirtual 216, 3) := by decide +kernel
theorem d_G_object_36 : decode b_G_object 36 = .ok (.ifCond .eq 18, 3) := by decide +kernel
theorem d_G_object_39 : decode b_G_object 39 = .ok (.aload_n 0, 1) := by decide +kernel
theorem d_G_object_40 : decode b_G_object 40 = .ok (.getfield 69, 3) := by decide +kernel
theorem d_G_object_43 : decode b_G_object 43 = .ok (.invokevirtual 219, 3) := by decide +kernel
theorem d_G_object_46 : decode b_G_object 46 = .ok (.iconst 2, 1) := by decide +kernel
theorem d_G_object_47 : decode b_G_object 47 = .ok (.if_icmp .ne 7, 3) := by decide +kernel
theorem d_G_object_50 : decode b_G_object 50 = .ok (.iconst 1, 1) := by decide +kernel
theorem d_G_object_51 : decode b_G_object 51 = .ok (.goto 4, 3) := by decide +kernel
theorem d_G_object_54 : decode b_G_object 54 = .ok (.iconst 0, 1) := by decide +kernel
theorem d_G_object_55 : decode b_G_object 55 = .ok (.istore_n 3, 1) := by decide +kernel
theorem d_G_object_56 : decode b_G_object 56 = .ok (.iload_n 3, 1) := by decide +kernel
theorem d_G_object_57 : decode b_G_object 57 = .ok (.ifCond .eq 16, 3) := by decide +kernel
theorem d_G_object_60 : decode b_G_object 60 = .ok (.iload_n 1, 1) := by decide +kernel
theorem d_G_object_61 : decode b_G_object 61 = .ok (.iconst 1, 1) := by decide +kernel
theorem d_G_object_62 : decode b_G_object 62 = .ok (.if_icmp .ne 7, 3) := by decide +kernel
theorem d_G_object_65 : decode b_G_object 65 = .ok (.iconst 1, 1) := by decide +kernel
theorem d_G_object_66 : decode b_G_object 66 = .ok (.goto 16, 3) := by decide +kernel
theorem d_G_object_69 : decode b_G_object 69 = .ok (.iconst 0, 1) := by decide +kernel
theorem d_G_object_70 : decode b_G_object 70 = .ok (.goto 12, 3) := by decide +kernel
theorem d_G_object_73 : decode b_G_object 73 = .ok (.iload_n 1, 1) := by decide +kernel
theorem d_G_object_74 : decode b_G_object 74 = .ok (.ifCond .ne 7, 3) := by decide +kernel
theorem d_G_object_77 : decode b_G_object 77 = .ok (.iconst 1, 1) := by decide +kernel
theorem d_G_object_78 : decode b_G_object 78 = .ok (.goto 4, 3) := by decide +kernel
theorem d_G_object_81 : decode b_G_object 81 = .ok (.iconst 0, 1) := by decide +kernel
theorem d_G_object_82 : decode b_G_object 82 = .ok (.istore 4, 2) := by decide +kernel
theorem d_G_object_84 : decode b_G_object 84 = .ok (.iload 4, 2) := by decide +kernel
theorem d_G_object_86 : decode b_G_object 86 = .ok (.ifCond .eq 13, 3) := by decide +kernel
theorem d_G_object_89 : decode b_G_object 89 = .ok (.aload_n 0, 1) := by decide +kernel
theorem d_G_object_90 : decode b_G_object 90 = .ok (.getfield 69, 3) := by decide +kernel
theorem d_G_object_93 : decode b_G_object 93 = .ok (.getfield 222, 3) := by decide +kernel
theorem d_G_object_96 : decode b_G_object 96 = .ok (.goto 10, 3) := by decide +kernel
theorem d_G_object_99 : decode b_G_object 99 = .ok (.aload_n 0, 1) := by decide +kernel
theorem d_G_object_100 : decode b_G_object 100 = .ok (.getfield 69, 3) := by decide +kernel
theorem d_G_object_103 : decode b_G_object 103 = .ok (.getfield 226, 3) := by decide +kernel
theorem d_G_object_106 : decode b_G_object 106 = .ok (.astore 5, 2) := by decide +kernel
theorem d_G_object_108 : decode b_G_object 108 = .ok (.aload 5, 2) := by decide +kernel
theorem d_G_object_110 : decode b_G_object 110 = .ok (.getfield 229, 3) := by decide +kernel
theorem d_G_object_113 : decode b_G_object 113 = .ok (.iconst (-1), 1) := by decide +kernel
theorem d_G_object_114 : decode b_G_object 114 = .ok (.if_icmp .ne 5, 3) := by decide +kernel
theorem d_G_object_117 : decode b_G_object 117 = .ok (.iconst (-1), 1) := by decide +kernel
theorem d_G_object_118 : decode b_G_object 118 = .ok (.ireturn, 1) := by decide +kernel
theorem d_G_object_119 : decode b_G_object 119 = .ok (.iload_n 2, 1) := by decide +kernel
theorem d_G_object_120 : decode b_G_object 120 = .ok (.bipush (-2), 2) := by decide +kernel
theorem d_G_object_122 : decode b_G_object 122 = .ok (.if_icmp .ne 9, 3) := by decide +kernel
theorem d_G_object_125 : decode b_G_object 125 = .ok (.aload 5, 2) := by decide +kernel
theorem d_G_object_127 : decode b_G_object 127 = .ok (.getfield 229, 3) := by decide +kernel
theorem d_G_object_130 : decode b_G_object 130 = .ok (.ireturn, 1) := by decide +kernel
theorem d_G_object_131 : decode b_G_object 131 = .ok (.iload_n 2, 1) := by decide +kernel
theorem d_G_object_132 : decode b_G_object 132 = .ok (.iconst (-1), 1) := by decide +kernel
theorem d_G_object_133 : decode b_G_object 133 = .ok (.if_icmp .ne 14, 3) := by decide +kernel
theorem d_G_object_136 : decode b_G_object 136 = .ok (.aload 5, 2) := by decide +kernel
theorem d_G_object_138 : decode b_G_object 138 = .ok (.getfield 234, 3) := by decide +kernel
theorem d_G_object_141 : decode b_G_object 141 = .ok (.invokevirtual 162, 3) := by decide +kernel
theorem d_G_object_144 : decode b_G_object 144 = .ok (.goto 12, 3) := by decide +kernel
theorem d_G_object_147 : decode b_G_object 147 = .ok (.aload 5, 2) := by decide +kernel
theorem d_G_object_149 : decode b_G_object 149 = .ok (.getfield 234, 3) := by decide +kernel
theorem d_G_object_152 : decode b_G_object 152 = .ok (.iload_n 2, 1) := by decide +kernel
theorem d_G_object_153 : decode b_G_object 153 = .ok (.invokevirtual 207, 3) := by decide +kernel
theorem d_G_object_156 : decode b_G_object 156 = .ok (.ireturn, 1) := by decide +kernel
theorem d_G_asked_0 : decode b_G_asked 0 = .ok (.iload_n 1, 1) := by decide +kernel
theorem d_G_asked_1 : decode b_G_asked 1 = .ok (.iconst (-1), 1) := by decide +kernel
theorem d_G_asked_2 : decode b_G_asked 2 = .ok (.if_icmp .ne 25, 3) := by decide +kernel
theorem d_G_asked_5 : decode b_G_asked 5 = .ok (.aload_n 0, 1) := by decide +kernel
theorem d_G_asked_6 : decode b_G_asked 6 = .ok (.getfield 76, 3) := by decide +kernel
theorem d_G_asked_9 : decode b_G_asked 9 = .ok (.invokevirtual 189, 3) := by decide +kernel
theorem d_G_asked_12 : decode b_G_asked 12 = .ok (.ifCond .eq 13, 3) := by decide +kernel
theorem d_G_asked_15 : decode b_G_asked 15 = .ok (.aload_n 0, 1) := by decide +kernel
theorem d_G_asked_16 : decode b_G_asked 16 = .ok (.getfield 76, 3) := by decide +kernel
theorem d_G_asked_19 : decode b_G_asked 19 = .ok (.getfield 194, 3) := by decide +kernel
theorem d_G_asked_22 : decode b_G_asked 22 = .ok (.goto 4, 3) := by decide +kernel
theorem d_G_asked_25 : decode b_G_asked 25 = .ok (.iconst 0, 1) := by decide +kernel
theorem d_G_asked_26 : decode b_G_asked 26 = .ok (.ireturn, 1) := by decide +kernel
theorem d_G_asked_27 : decode b_G_asked 27 = .ok (.aload_n 0, 1) := by decide +kernel
theorem d_G_asked_28 : decode b_G_asked 28 = .ok (.getfield 76, 3) := by decide +kernel
theorem d_G_asked_31 : decode b_G_asked 31 = .ok (.invokevirtual 189, 3) := by decide +kernel
theorem d_G_asked_34 : decode b_G_asked 34 = .ok (.ifCond .eq 17, 3) := by decide +kernel
theorem d_G_asked_37 : decode b_G_asked 37 = .ok (.aload_n 0, 1) := by decide +kernel
theorem d_G_asked_38 : decode b_G_asked 38 = .ok (.getfield 76, 3) := by decide +kernel
theorem d_G_asked_41 : decode b_G_asked 41 = .ok (.getfield 197, 3) := by decide +kernel
theorem d_G_asked_44 : decode b_G_asked 44 = .ok (.iload_n 1, 1) := by decide +kernel
theorem d_G_asked_45 : decode b_G_asked 45 = .ok (.invokevirtual 207, 3) := by decide +kernel
theorem d_G_asked_48 : decode b_G_asked 48 = .ok (.goto 4, 3) := by decide +kernel
theorem d_G_asked_51 : decode b_G_asked 51 = .ok (.iconst (-1), 1) := by decide +kernel
theorem d_G_asked_52 : decode b_G_asked 52 = .ok (.ireturn, 1) := by decide +kernel
theorem d_G_filled_0 : decode b_G_filled 0 = .ok (.aload_n 0, 1) := by decide +kernel
end
section
theorem d_G_filled_1 : decode b_G_filled 1 = .ok (.getfield 76, 3) := by decide +kernel
theorem d_G_filled_4 : decode b_G_filled 4 = .ok (.getfield 210, 3) := by decide +kernel
theorem d_G_filled_7 : decode b_G_filled 7 = .ok (.iconst (-1), 1) := by decide +kernel
theorem d_G_filled_8 : decode b_G_filled 8 = .ok (.if_icmp .ne 7, 3) := by decide +kernel
theorem d_G_filled_11 : decode b_G_filled 11 = .ok (.iconst (-1), 1) := by decide +kernel
theorem d_G_filled_12 : decode b_G_filled 12 = .ok (.goto 14, 3) := by decide +kernel
theorem d_G_filled_15 : decode b_G_filled 15 = .ok (.aload_n 0, 1) := by decide +kernel
theorem d_G_filled_16 : decode b_G_filled 16 = .ok (.getfield 69, 3) := by decide +kernel
theorem d_G_filled_19 : decode b_G_filled 19 = .ok (.getfield 237, 3) := by decide +kernel
theorem d_G_filled_22 : decode b_G_filled 22 = .ok (.iload_n 1, 1) := by decide +kernel
theorem d_G_filled_23 : decode b_G_filled 23 = .ok (.invokevirtual 207, 3) := by decide +kernel
theorem d_G_filled_26 : decode b_G_filled 26 = .ok (.ireturn, 1) := by decide +kernel
theorem d_Verbs_count_0 : decode b_Verbs_count 0 = .ok (.aload_n 0, 1) := by decide +kernel
theorem d_Verbs_count_1 : decode b_Verbs_count 1 = .ok (.getfield 23, 3) := by decide +kernel
theorem d_Verbs_count_4 : decode b_Verbs_count 4 = .ok (.ireturn, 1) := by decide +kernel
theorem d_Things_count_0 : decode b_Things_count 0 = .ok (.aload_n 0, 1) := by decide +kernel
theorem d_Things_count_1 : decode b_Things_count 1 = .ok (.getfield 21, 3) := by decide +kernel
theorem d_Things_count_4 : decode b_Things_count 4 = .ok (.ireturn, 1) := by decide +kernel
theorem d_G_told_0 : decode b_G_told 0 = .ok (.iload_n 1, 1) := by decide +kernel
theorem d_G_told_1 : decode b_G_told 1 = .ok (.tableswitch 147 0 10 #[59, 67, 75, 83, 88, 99, 107, 115, 123, 131, 139], 59) := by decide +kernel
theorem d_G_told_60 : decode b_G_told 60 = .ok (.aload_n 0, 1) := by decide +kernel
theorem d_G_told_61 : decode b_G_told 61 = .ok (.getfield 76, 3) := by decide +kernel
theorem d_G_told_64 : decode b_G_told 64 = .ok (.getfield 194, 3) := by decide +kernel
theorem d_G_told_67 : decode b_G_told 67 = .ok (.ireturn, 1) := by decide +kernel
theorem d_G_told_68 : decode b_G_told 68 = .ok (.aload_n 0, 1) := by decide +kernel
theorem d_G_told_69 : decode b_G_told 69 = .ok (.getfield 76, 3) := by decide +kernel
theorem d_G_told_72 : decode b_G_told 72 = .ok (.getfield 240, 3) := by decide +kernel
theorem d_G_told_75 : decode b_G_told 75 = .ok (.ireturn, 1) := by decide +kernel
theorem d_G_told_76 : decode b_G_told 76 = .ok (.aload_n 0, 1) := by decide +kernel
theorem d_G_told_77 : decode b_G_told 77 = .ok (.getfield 76, 3) := by decide +kernel
theorem d_G_told_80 : decode b_G_told 80 = .ok (.getfield 213, 3) := by decide +kernel
theorem d_G_told_83 : decode b_G_told 83 = .ok (.ireturn, 1) := by decide +kernel
theorem d_G_told_84 : decode b_G_told 84 = .ok (.aload_n 0, 1) := by decide +kernel
theorem d_G_told_85 : decode b_G_told 85 = .ok (.getfield 80, 3) := by decide +kernel
theorem d_G_told_88 : decode b_G_told 88 = .ok (.ireturn, 1) := by decide +kernel
theorem d_G_told_89 : decode b_G_told 89 = .ok (.aload_n 0, 1) := by decide +kernel
theorem d_G_told_90 : decode b_G_told 90 = .ok (.getfield 76, 3) := by decide +kernel
theorem d_G_told_93 : decode b_G_told 93 = .ok (.getfield 243, 3) := by decide +kernel
theorem d_G_told_96 : decode b_G_told 96 = .ok (.invokevirtual 162, 3) := by decide +kernel
theorem d_G_told_99 : decode b_G_told 99 = .ok (.ireturn, 1) := by decide +kernel
theorem d_G_told_100 : decode b_G_told 100 = .ok (.aload_n 0, 1) := by decide +kernel
theorem d_G_told_101 : decode b_G_told 101 = .ok (.getfield 42, 3) := by decide +kernel
theorem d_G_told_104 : decode b_G_told 104 = .ok (.invokevirtual 162, 3) := by decide +kernel
theorem d_G_told_107 : decode b_G_told 107 = .ok (.ireturn, 1) := by decide +kernel
theorem d_G_told_108 : decode b_G_told 108 = .ok (.aload_n 0, 1) := by decide +kernel
theorem d_G_told_109 : decode b_G_told 109 = .ok (.getfield 46, 3) := by decide +kernel
theorem d_G_told_112 : decode b_G_told 112 = .ok (.invokevirtual 162, 3) := by decide +kernel
theorem d_G_told_115 : decode b_G_told 115 = .ok (.ireturn, 1) := by decide +kernel
theorem d_G_told_116 : decode b_G_told 116 = .ok (.aload_n 0, 1) := by decide +kernel
theorem d_G_told_117 : decode b_G_told 117 = .ok (.getfield 19, 3) := by decide +kernel
theorem d_G_told_120 : decode b_G_told 120 = .ok (.invokevirtual 246, 3) := by decide +kernel
theorem d_G_told_123 : decode b_G_told 123 = .ok (.ireturn, 1) := by decide +kernel
theorem d_G_told_124 : decode b_G_told 124 = .ok (.aload_n 0, 1) := by decide +kernel
theorem d_G_told_125 : decode b_G_told 125 = .ok (.getfield 26, 3) := by decide +kernel
theorem d_G_told_128 : decode b_G_told 128 = .ok (.invokevirtual 247, 3) := by decide +kernel
theorem d_G_told_131 : decode b_G_told 131 = .ok (.ireturn, 1) := by decide +kernel
theorem d_G_told_132 : decode b_G_told 132 = .ok (.aload_n 0, 1) := by decide +kernel
theorem d_G_told_133 : decode b_G_told 133 = .ok (.getfield 10, 3) := by decide +kernel
theorem d_G_told_136 : decode b_G_told 136 = .ok (.invokevirtual 248, 3) := by decide +kernel
theorem d_G_told_139 : decode b_G_told 139 = .ok (.ireturn, 1) := by decide +kernel
theorem d_G_told_140 : decode b_G_told 140 = .ok (.aload_n 0, 1) := by decide +kernel
theorem d_G_told_141 : decode b_G_told 141 = .ok (.getfield 33, 3) := by decide +kernel
theorem d_G_told_144 : decode b_G_told 144 = .ok (.invokevirtual 152, 3) := by decide +kernel
theorem d_G_told_147 : decode b_G_told 147 = .ok (.ireturn, 1) := by decide +kernel
theorem d_G_told_148 : decode b_G_told 148 = .ok (.iconst (-1), 1) := by decide +kernel
theorem d_G_told_149 : decode b_G_told 149 = .ok (.ireturn, 1) := by decide +kernel
theorem d_G_trace_0 : decode b_G_trace 0 = .ok (.iload_n 2, 1) := by decide +kernel
theorem d_G_trace_1 : decode b_G_trace 1 = .ok (.tableswitch 63 0 2 #[27, 39, 51], 27) := by decide +kernel
theorem d_G_trace_28 : decode b_G_trace 28 = .ok (.aload_n 0, 1) := by decide +kernel
theorem d_G_trace_29 : decode b_G_trace 29 = .ok (.getfield 76, 3) := by decide +kernel
theorem d_G_trace_32 : decode b_G_trace 32 = .ok (.getfield 243, 3) := by decide +kernel
theorem d_G_trace_35 : decode b_G_trace 35 = .ok (.iload_n 1, 1) := by decide +kernel
theorem d_G_trace_36 : decode b_G_trace 36 = .ok (.invokevirtual 207, 3) := by decide +kernel
theorem d_G_trace_39 : decode b_G_trace 39 = .ok (.ireturn, 1) := by decide +kernel
theorem d_G_trace_40 : decode b_G_trace 40 = .ok (.aload_n 0, 1) := by decide +kernel
theorem d_G_trace_41 : decode b_G_trace 41 = .ok (.getfield 76, 3) := by decide +kernel
theorem d_G_trace_44 : decode b_G_trace 44 = .ok (.getfield 249, 3) := by decide +kernel
theorem d_G_trace_47 : decode b_G_trace 47 = .ok (.iload_n 1, 1) := by decide +kernel
theorem d_G_trace_48 : decode b_G_trace 48 = .ok (.invokevirtual 207, 3) := by decide +kernel
theorem d_G_trace_51 : decode b_G_trace 51 = .ok (.ireturn, 1) := by decide +kernel
theorem d_G_trace_52 : decode b_G_trace 52 = .ok (.aload_n 0, 1) := by decide +kernel
theorem d_G_trace_53 : decode b_G_trace 53 = .ok (.getfield 76, 3) := by decide +kernel
theorem d_G_trace_56 : decode b_G_trace 56 = .ok (.getfield 252, 3) := by decide +kernel
theorem d_G_trace_59 : decode b_G_trace 59 = .ok (.iload_n 1, 1) := by decide +kernel
theorem d_G_trace_60 : decode b_G_trace 60 = .ok (.invokevirtual 207, 3) := by decide +kernel
theorem d_G_trace_63 : decode b_G_trace 63 = .ok (.ireturn, 1) := by decide +kernel
theorem d_G_trace_64 : decode b_G_trace 64 = .ok (.iconst (-1), 1) := by decide +kernel
theorem d_G_trace_65 : decode b_G_trace 65 = .ok (.ireturn, 1) := by decide +kernel
theorem d_G_said_0 : decode b_G_said 0 = .ok (.iload_n 1, 1) := by decide +kernel
theorem d_G_said_1 : decode b_G_said 1 = .ok (.ifCond .ne 12, 3) := by decide +kernel
theorem d_G_said_4 : decode b_G_said 4 = .ok (.aload_n 0, 1) := by decide +kernel
theorem d_G_said_5 : decode b_G_said 5 = .ok (.getfield 46, 3) := by decide +kernel
theorem d_G_said_8 : decode b_G_said 8 = .ok (.iload_n 2, 1) := by decide +kernel
theorem d_G_said_9 : decode b_G_said 9 = .ok (.invokevirtual 207, 3) := by decide +kernel
theorem d_G_said_12 : decode b_G_said 12 = .ok (.ireturn, 1) := by decide +kernel
theorem d_G_said_13 : decode b_G_said 13 = .ok (.iload_n 1, 1) := by decide +kernel
theorem d_G_said_14 : decode b_G_said 14 = .ok (.iconst 1, 1) := by decide +kernel
theorem d_G_said_15 : decode b_G_said 15 = .ok (.if_icmp .ne 14, 3) := by decide +kernel
theorem d_G_said_18 : decode b_G_said 18 = .ok (.aload_n 0, 1) := by decide +kernel
theorem d_G_said_19 : decode b_G_said 19 = .ok (.getfield 42, 3) := by decide +kernel
theorem d_G_said_22 : decode b_G_said 22 = .ok (.iload_n 2, 1) := by decide +kernel
theorem d_G_said_23 : decode b_G_said 23 = .ok (.invokevirtual 207, 3) := by decide +kernel
theorem d_G_said_26 : decode b_G_said 26 = .ok (.goto 4, 3) := by decide +kernel
theorem d_G_said_29 : decode b_G_said 29 = .ok (.iconst (-1), 1) := by decide +kernel
theorem d_G_said_30 : decode b_G_said 30 = .ok (.ireturn, 1) := by decide +kernel
theorem d_M_within_0 : decode b_M_within 0 = .ok (.iload_n 0, 1) := by decide +kernel
theorem d_M_within_1 : decode b_M_within 1 = .ok (.iload_n 1, 1) := by decide +kernel
theorem d_M_within_2 : decode b_M_within 2 = .ok (.if_icmp .lt 12, 3) := by decide +kernel
theorem d_M_within_5 : decode b_M_within 5 = .ok (.iload_n 0, 1) := by decide +kernel
theorem d_M_within_6 : decode b_M_within 6 = .ok (.iload_n 2, 1) := by decide +kernel
theorem d_M_within_7 : decode b_M_within 7 = .ok (.if_icmp .gt 7, 3) := by decide +kernel
theorem d_M_within_10 : decode b_M_within 10 = .ok (.iconst 1, 1) := by decide +kernel
theorem d_M_within_11 : decode b_M_within 11 = .ok (.goto 4, 3) := by decide +kernel
theorem d_M_within_14 : decode b_M_within 14 = .ok (.iconst 0, 1) := by decide +kernel
theorem d_M_within_15 : decode b_M_within 15 = .ok (.ireturn, 1) := by decide +kernel
theorem d_M_isPlain_0 : decode b_M_isPlain 0 = .ok (.iload_n 0, 1) := by decide +kernel
theorem d_M_isPlain_1 : decode b_M_isPlain 1 = .ok (.bipush 10, 2) := by decide +kernel
theorem d_M_isPlain_3 : decode b_M_isPlain 3 = .ok (.sipush 9999, 3) := by decide +kernel
theorem d_M_isPlain_6 : decode b_M_isPlain 6 = .ok (.invokestatic 112, 3) := by decide +kernel
theorem d_M_isPlain_9 : decode b_M_isPlain 9 = .ok (.ireturn, 1) := by decide +kernel
theorem d_M_verbBy_0 : decode b_M_verbBy 0 = .ok (.iconst 0, 1) := by decide +kernel
theorem d_M_verbBy_1 : decode b_M_verbBy 1 = .ok (.istore_n 2, 1) := by decide +kernel
theorem d_M_verbBy_2 : decode b_M_verbBy 2 = .ok (.iload_n 2, 1) := by decide +kernel
theorem d_M_verbBy_3 : decode b_M_verbBy 3 = .ok (.aload_n 0, 1) := by decide +kernel
theorem d_M_verbBy_4 : decode b_M_verbBy 4 = .ok (.getfield 116, 3) := by decide +kernel
theorem d_M_verbBy_7 : decode b_M_verbBy 7 = .ok (.if_icmp .ge 26, 3) := by decide +kernel
theorem d_M_verbBy_10 : decode b_M_verbBy 10 = .ok (.aload_n 0, 1) := by decide +kernel
theorem d_M_verbBy_11 : decode b_M_verbBy 11 = .ok (.getfield 7, 3) := by decide +kernel
theorem d_M_verbBy_14 : decode b_M_verbBy 14 = .ok (.iload_n 2, 1) := by decide +kernel
theorem d_M_verbBy_15 : decode b_M_verbBy 15 = .ok (.iaload, 1) := by decide +kernel
theorem d_M_verbBy_16 : decode b_M_verbBy 16 = .ok (.iload_n 1, 1) := by decide +kernel
theorem d_M_verbBy_17 : decode b_M_verbBy 17 = .ok (.if_icmp .ne 10, 3) := by decide +kernel
theorem d_M_verbBy_20 : decode b_M_verbBy 20 = .ok (.aload_n 0, 1) := by decide +kernel
theorem d_M_verbBy_21 : decode b_M_verbBy 21 = .ok (.getfield 13, 3) := by decide +kernel
theorem d_M_verbBy_24 : decode b_M_verbBy 24 = .ok (.iload_n 2, 1) := by decide +kernel
theorem d_M_verbBy_25 : decode b_M_verbBy 25 = .ok (.iaload, 1) := by decide +kernel
theorem d_M_verbBy_26 : decode b_M_verbBy 26 = .ok (.ireturn, 1) := by decide +kernel
theorem d_M_verbBy_27 : decode b_M_verbBy 27 = .ok (.iinc 2 1, 3) := by decide +kernel
theorem d_M_verbBy_30 : decode b_M_verbBy 30 = .ok (.goto (-28), 3) := by decide +kernel
theorem d_M_verbBy_33 : decode b_M_verbBy 33 = .ok (.iconst (-1), 1) := by decide +kernel
theorem d_M_verbBy_34 : decode b_M_verbBy 34 = .ok (.ireturn, 1) := by decide +kernel
theorem d_M_isOfVerb_0 : decode b_M_isOfVerb 0 = .ok (.aload_n 0, 1) := by decide +kernel
theorem d_M_isOfVerb_1 : decode b_M_isOfVerb 1 = .ok (.getfield 7, 3) := by decide +kernel
theorem d_M_isOfVerb_4 : decode b_M_isOfVerb 4 = .ok (.aload_n 0, 1) := by decide +kernel
theorem d_M_isOfVerb_5 : decode b_M_isOfVerb 5 = .ok (.getfield 116, 3) := by decide +kernel
theorem d_M_isOfVerb_8 : decode b_M_isOfVerb 8 = .ok (.iload_n 2, 1) := by decide +kernel
theorem d_M_isOfVerb_9 : decode b_M_isOfVerb 9 = .ok (.iastore, 1) := by decide +kernel
theorem d_M_isOfVerb_10 : decode b_M_isOfVerb 10 = .ok (.aload_n 0, 1) := by decide +kernel
theorem d_M_isOfVerb_11 : decode b_M_isOfVerb 11 = .ok (.getfield 13, 3) := by decide +kernel
theorem d_M_isOfVerb_14 : decode b_M_isOfVerb 14 = .ok (.aload_n 0, 1) := by decide +kernel
theorem d_M_isOfVerb_15 : decode b_M_isOfVerb 15 = .ok (.getfield 116, 3) := by decide +kernel
theorem d_M_isOfVerb_18 : decode b_M_isOfVerb 18 = .ok (.iload_n 1, 1) := by decide +kernel
theorem d_M_isOfVerb_19 : decode b_M_isOfVerb 19 = .ok (.iastore, 1) := by decide +kernel
theorem d_M_isOfVerb_20 : decode b_M_isOfVerb 20 = .ok (.aload_n 0, 1) := by decide +kernel
theorem d_M_isOfVerb_21 : decode b_M_isOfVerb 21 = .ok (.dup, 1) := by decide +kernel
theorem d_M_isOfVerb_22 : decode b_M_isOfVerb 22 = .ok (.getfield 116, 3) := by decide +kernel
theorem d_M_isOfVerb_25 : decode b_M_isOfVerb 25 = .ok (.iconst 1, 1) := by decide +kernel
theorem d_M_isOfVerb_26 : decode b_M_isOfVerb 26 = .ok (.iadd, 1) := by decide +kernel
theorem d_M_isOfVerb_27 : decode b_M_isOfVerb 27 = .ok (.putfield 116, 3) := by decide +kernel
theorem d_M_isOfVerb_30 : decode b_M_isOfVerb 30 = .ok (.return_, 1) := by decide +kernel
theorem d_M_verb_0 : decode b_M_verb 0 = .ok (.iload_n 1, 1) := by decide +kernel
theorem d_M_verb_1 : decode b_M_verb 1 = .ok (.invokestatic 119, 3) := by decide +kernel
theorem d_M_verb_4 : decode b_M_verb 4 = .ok (.ifCond .eq 12, 3) := by decide +kernel
theorem d_M_verb_7 : decode b_M_verb 7 = .ok (.aload_n 0, 1) := by decide +kernel
theorem d_M_verb_8 : decode b_M_verb 8 = .ok (.iload_n 1, 1) := by decide +kernel
theorem d_M_verb_9 : decode b_M_verb 9 = .ok (.invokevirtual 123, 3) := by decide +kernel
theorem d_M_verb_12 : decode b_M_verb 12 = .ok (.iconst (-1), 1) := by decide +kernel
theorem d_M_verb_13 : decode b_M_verb 13 = .ok (.if_icmp .eq 6, 3) := by decide +kernel
theorem d_M_verb_16 : decode b_M_verb 16 = .ok (.bipush (-102), 2) := by decide +kernel
theorem d_M_verb_18 : decode b_M_verb 18 = .ok (.ireturn, 1) := by decide +kernel
theorem d_M_verb_19 : decode b_M_verb 19 = .ok (.aload_n 0, 1) := by decide +kernel
theorem d_M_verb_20 : decode b_M_verb 20 = .ok (.getfield 127, 3) := by decide +kernel
theorem d_M_verb_23 : decode b_M_verb 23 = .ok (.bipush 20, 2) := by decide +kernel
theorem d_M_verb_25 : decode b_M_verb 25 = .ok (.if_icmp .eq 12, 3) := by decide +kernel
theorem d_M_verb_28 : decode b_M_verb 28 = .ok (.aload_n 0, 1) := by decide +kernel
theorem d_M_verb_29 : decode b_M_verb 29 = .ok (.getfield 116, 3) := by decide +kernel
theorem d_M_verb_32 : decode b_M_verb 32 = .ok (.bipush 60, 2) := by decide +kernel
theorem d_M_verb_34 : decode b_M_verb 34 = .ok (.if_icmp .ne 6, 3) := by decide +kernel
theorem d_M_verb_37 : decode b_M_verb 37 = .ok (.bipush (-104), 2) := by decide +kernel
theorem d_M_verb_39 : decode b_M_verb 39 = .ok (.ireturn, 1) := by decide +kernel
theorem d_M_verb_40 : decode b_M_verb 40 = .ok (.aload_n 0, 1) := by decide +kernel
theorem d_M_verb_41 : decode b_M_verb 41 = .ok (.aload_n 0, 1) := by decide +kernel
theorem d_M_verb_42 : decode b_M_verb 42 = .ok (.getfield 127, 3) := by decide +kernel
theorem d_M_verb_45 : decode b_M_verb 45 = .ok (.iload_n 1, 1) := by decide +kernel
theorem d_M_verb_46 : decode b_M_verb 46 = .ok (.invokevirtual 130, 3) := by decide +kernel
theorem d_M_verb_49 : decode b_M_verb 49 = .ok (.aload_n 0, 1) := by decide +kernel
theorem d_M_verb_50 : decode b_M_verb 50 = .ok (.dup, 1) := by decide +kernel
theorem d_M_verb_51 : decode b_M_verb 51 = .ok (.getfield 127, 3) := by decide +kernel
theorem d_M_verb_54 : decode b_M_verb 54 = .ok (.iconst 1, 1) := by decide +kernel
theorem d_M_verb_55 : decode b_M_verb 55 = .ok (.iadd, 1) := by decide +kernel
theorem d_M_verb_56 : decode b_M_verb 56 = .ok (.putfield 127, 3) := by decide +kernel
theorem d_M_verb_59 : decode b_M_verb 59 = .ok (.aload_n 0, 1) := by decide +kernel
theorem d_M_verb_60 : decode b_M_verb 60 = .ok (.getfield 127, 3) := by decide +kernel
theorem d_M_verb_63 : decode b_M_verb 63 = .ok (.iconst 1, 1) := by decide +kernel
theorem d_M_verb_64 : decode b_M_verb 64 = .ok (.isub, 1) := by decide +kernel
theorem d_M_verb_65 : decode b_M_verb 65 = .ok (.ireturn, 1) := by decide +kernel
theorem d_M_like_0 : decode b_M_like 0 = .ok (.iload_n 1, 1) := by decide +kernel
theorem d_M_like_1 : decode b_M_like 1 = .ok (.iconst 0, 1) := by decide +kernel
theorem d_M_like_2 : decode b_M_like 2 = .ok (.aload_n 0, 1) := by decide +kernel
theorem d_M_like_3 : decode b_M_like 3 = .ok (.getfield 127, 3) := by decide +kernel
theorem d_M_like_6 : decode b_M_like 6 = .ok (.iconst 1, 1) := by decide +kernel
theorem d_M_like_7 : decode b_M_like 7 = .ok (.isub, 1) := by decide +kernel
theorem d_M_like_8 : decode b_M_like 8 = .ok (.invokestatic 112, 3) := by decide +kernel
theorem d_M_like_11 : decode b_M_like 11 = .ok (.ifCond .ne 6, 3) := by decide +kernel
theorem d_M_like_14 : decode b_M_like 14 = .ok (.bipush (-101), 2) := by decide +kernel
theorem d_M_like_16 : decode b_M_like 16 = .ok (.ireturn, 1) := by decide +kernel
theorem d_M_like_17 : decode b_M_like 17 = .ok (.iload_n 2, 1) := by decide +kernel
theorem d_M_like_18 : decode b_M_like 18 = .ok (.invokestatic 119, 3) := by decide +kernel
theorem d_M_like_21 : decode b_M_like 21 = .ok (.ifCond .eq 12, 3) := by decide +kernel
theorem d_M_like_24 : decode b_M_like 24 = .ok (.aload_n 0, 1) := by decide +kernel
theorem d_M_like_25 : decode b_M_like 25 = .ok (.iload_n 2, 1) := by decide +kernel
theorem d_M_like_26 : decode b_M_like 26 = .ok (.invokevirtual 123, 3) := by decide +kernel
theorem d_M_like_29 : decode b_M_like 29 = .ok (.iconst (-1), 1) := by decide +kernel
theorem d_M_like_30 : decode b_M_like 30 = .ok (.if_icmp .eq 6, 3) := by decide +kernel
theorem d_M_like_33 : decode b_M_like 33 = .ok (.bipush (-102), 2) := by decide +kernel
theorem d_M_like_35 : decode b_M_like 35 = .ok (.ireturn, 1) := by decide +kernel
theorem d_M_like_36 : decode b_M_like 36 = .ok (.aload_n 0, 1) := by decide +kernel
theorem d_M_like_37 : decode b_M_like 37 = .ok (.getfield 116, 3) := by decide +kernel
theorem d_M_like_40 : decode b_M_like 40 = .ok (.bipush 60, 2) := by decide +kernel
theorem d_M_like_42 : decode b_M_like 42 = .ok (.if_icmp .ne 6, 3) := by decide +kernel
theorem d_M_like_45 : decode b_M_like 45 = .ok (.bipush (-104), 2) := by decide +kernel
theorem d_M_like_47 : decode b_M_like 47 = .ok (.ireturn, 1) := by decide +kernel
theorem d_M_like_48 : decode b_M_like 48 = .ok (.aload_n 0, 1) := by decide +kernel
theorem d_M_like_49 : decode b_M_like 49 = .ok (.iload_n 1, 1) := by decide +kernel
theorem d_M_like_50 : decode b_M_like 50 = .ok (.iload_n 2, 1) := by decide +kernel
theorem d_M_like_51 : decode b_M_like 51 = .ok (.invokevirtual 130, 3) := by decide +kernel
theorem d_M_like_54 : decode b_M_like 54 = .ok (.iconst 0, 1) := by decide +kernel
theorem d_M_like_55 : decode b_M_like 55 = .ok (.istore_n 3, 1) := by decide +kernel
theorem d_M_like_56 : decode b_M_like 56 = .ok (.iconst 0, 1) := by decide +kernel
theorem d_M_like_57 : decode b_M_like 57 = .ok (.istore 4, 2) := by decide +kernel
theorem d_M_like_59 : decode b_M_like 59 = .ok (.iload 4, 2) := by decide +kernel
theorem d_M_like_61 : decode b_M_like 61 = .ok (.aload_n 0, 1) := by decide +kernel
theorem d_M_like_62 : decode b_M_like 62 = .ok (.getfield 116, 3) := by decide +kernel
theorem d_M_like_65 : decode b_M_like 65 = .ok (.if_icmp .ge 28, 3) := by decide +kernel
theorem d_M_like_68 : decode b_M_like 68 = .ok (.iload_n 3, 1) := by decide +kernel
theorem d_M_like_69 : decode b_M_like 69 = .ok (.aload_n 0, 1) := by decide +kernel
theorem d_M_like_70 : decode b_M_like 70 = .ok (.getfield 13, 3) := by decide +kernel
theorem d_M_like_73 : decode b_M_like 73 = .ok (.iload 4, 2) := by decide +kernel
theorem d_M_like_75 : decode b_M_like 75 = .ok (.iaload, 1) := by decide +kernel
theorem d_M_like_76 : decode b_M_like 76 = .ok (.iload_n 1, 1) := by decide +kernel
theorem d_M_like_77 : decode b_M_like 77 = .ok (.if_icmp .ne 7, 3) := by decide +kernel
theorem d_M_like_80 : decode b_M_like 80 = .ok (.iconst 1, 1) := by decide +kernel
theorem d_M_like_81 : decode b_M_like 81 = .ok (.goto 4, 3) := by decide +kernel
theorem d_M_like_84 : decode b_M_like 84 = .ok (.iconst 0, 1) := by decide +kernel
theorem d_M_like_85 : decode b_M_like 85 = .ok (.iadd, 1) := by decide +kernel
theorem d_M_like_86 : decode b_M_like 86 = .ok (.istore_n 3, 1) := by decide +kernel
theorem d_M_like_87 : decode b_M_like 87 = .ok (.iinc 4 1, 3) := by decide +kernel
theorem d_M_like_90 : decode b_M_like 90 = .ok (.goto (-31), 3) := by decide +kernel
theorem d_M_like_93 : decode b_M_like 93 = .ok (.iload_n 3, 1) := by decide +kernel
theorem d_M_like_94 : decode b_M_like 94 = .ok (.ireturn, 1) := by decide +kernel
theorem d_M_line_0 : decode b_M_line 0 = .ok (.iload_n 1, 1) := by decide +kernel
theorem d_M_line_1 : decode b_M_line 1 = .ok (.iconst 0, 1) := by decide +kernel
theorem d_M_line_2 : decode b_M_line 2 = .ok (.aload_n 0, 1) := by decide +kernel
theorem d_M_line_3 : decode b_M_line 3 = .ok (.getfield 127, 3) := by decide +kernel
theorem d_M_line_6 : decode b_M_line 6 = .ok (.iconst 1, 1) := by decide +kernel
theorem d_M_line_7 : decode b_M_line 7 = .ok (.isub, 1) := by decide +kernel
theorem d_M_line_8 : decode b_M_line 8 = .ok (.invokestatic 112, 3) := by decide +kernel
theorem d_M_line_11 : decode b_M_line 11 = .ok (.ifCond .ne 6, 3) := by decide +kernel
theorem d_M_line_14 : decode b_M_line 14 = .ok (.bipush (-101), 2) := by decide +kernel
theorem d_M_line_16 : decode b_M_line 16 = .ok (.ireturn, 1) := by decide +kernel
theorem d_M_line_17 : decode b_M_line 17 = .ok (.iload_n 2, 1) := by decide +kernel
theorem d_M_line_18 : decode b_M_line 18 = .ok (.iconst 1, 1) := by decide +kernel
theorem d_M_line_19 : decode b_M_line 19 = .ok (.sipush 9999, 3) := by decide +kernel
theorem d_M_line_22 : decode b_M_line 22 = .ok (.invokestatic 112, 3) := by decide +kernel
theorem d_M_line_25 : decode b_M_line 25 = .ok (.ifCond .ne 6, 3) := by decide +kernel
theorem d_M_line_28 : decode b_M_line 28 = .ok (.bipush (-102), 2) := by decide +kernel
theorem d_M_line_30 : decode b_M_line 30 = .ok (.ireturn, 1) := by decide +kernel
theorem d_M_line_31 : decode b_M_line 31 = .ok (.aload_n 0, 1) := by decide +kernel
theorem d_M_line_32 : decode b_M_line 32 = .ok (.getfield 134, 3) := by decide +kernel
theorem d_M_line_35 : decode b_M_line 35 = .ok (.bipush 60, 2) := by decide +kernel
theorem d_M_line_37 : decode b_M_line 37 = .ok (.if_icmp .ne 6, 3) := by decide +kernel
theorem d_M_line_40 : decode b_M_line 40 = .ok (.bipush (-104), 2) := by decide +kernel
theorem d_M_line_42 : decode b_M_line 42 = .ok (.ireturn, 1) := by decide +kernel
theorem d_M_line_43 : decode b_M_line 43 = .ok (.aload_n 0, 1) := by decide +kernel
theorem d_M_line_44 : decode b_M_line 44 = .ok (.getfield 16, 3) := by decide +kernel
theorem d_M_line_47 : decode b_M_line 47 = .ok (.aload_n 0, 1) := by decide +kernel
theorem d_M_line_48 : decode b_M_line 48 = .ok (.getfield 134, 3) := by decide +kernel
theorem d_M_line_51 : decode b_M_line 51 = .ok (.iload_n 1, 1) := by decide +kernel
theorem d_M_line_52 : decode b_M_line 52 = .ok (.iastore, 1) := by decide +kernel
theorem d_M_line_53 : decode b_M_line 53 = .ok (.aload_n 0, 1) := by decide +kernel
theorem d_M_line_54 : decode b_M_line 54 = .ok (.getfield 19, 3) := by decide +kernel
theorem d_M_line_57 : decode b_M_line 57 = .ok (.aload_n 0, 1) := by decide +kernel
theorem d_M_line_58 : decode b_M_line 58 = .ok (.getfield 134, 3) := by decide +kernel
theorem d_M_line_61 : decode b_M_line 61 = .ok (.iload_n 2, 1) := by decide +kernel
theorem d_M_line_62 : decode b_M_line 62 = .ok (.iastore, 1) := by decide +kernel
theorem d_M_line_63 : decode b_M_line 63 = .ok (.aload_n 0, 1) := by decide +kernel
theorem d_M_line_64 : decode b_M_line 64 = .ok (.getfield 22, 3) := by decide +kernel
theorem d_M_line_67 : decode b_M_line 67 = .ok (.aload_n 0, 1) := by decide +kernel
theorem d_M_line_68 : decode b_M_line 68 = .ok (.getfield 134, 3) := by decide +kernel
theorem d_M_line_71 : decode b_M_line 71 = .ok (.iload_n 3, 1) := by decide +kernel
theorem d_M_line_72 : decode b_M_line 72 = .ok (.bastore, 1) := by decide +kernel
theorem d_M_line_73 : decode b_M_line 73 = .ok (.aload_n 0, 1) := by decide +kernel
theorem d_M_line_74 : decode b_M_line 74 = .ok (.getfield 26, 3) := by decide +kernel
theorem d_M_line_77 : decode b_M_line 77 = .ok (.aload_n 0, 1) := by decide +kernel
theorem d_M_line_78 : decode b_M_line 78 = .ok (.getfield 134, 3) := by decide +kernel
theorem d_M_line_81 : decode b_M_line 81 = .ok (.iconst 0, 1) := by decide +kernel
theorem d_M_line_82 : decode b_M_line 82 = .ok (.iastore, 1) := by decide +kernel
theorem d_M_line_83 : decode b_M_line 83 = .ok (.aload_n 0, 1) := by decide +kernel
theorem d_M_line_84 : decode b_M_line 84 = .ok (.dup, 1) := by decide +kernel
theorem d_M_line_85 : decode b_M_line 85 = .ok (.getfield 134, 3) := by decide +kernel
theorem d_M_line_88 : decode b_M_line 88 = .ok (.iconst 1, 1) := by decide +kernel
theorem d_M_line_89 : decode b_M_line 89 = .ok (.iadd, 1) := by decide +kernel
theorem d_M_line_90 : decode b_M_line 90 = .ok (.putfield 134, 3) := by decide +kernel
theorem d_M_line_93 : decode b_M_line 93 = .ok (.aload_n 0, 1) := by decide +kernel
theorem d_M_line_94 : decode b_M_line 94 = .ok (.getfield 134, 3) := by decide +kernel
theorem d_M_line_97 : decode b_M_line 97 = .ok (.iconst 1, 1) := by decide +kernel
theorem d_M_line_98 : decode b_M_line 98 = .ok (.isub, 1) := by decide +kernel
theorem d_M_line_99 : decode b_M_line 99 = .ok (.ireturn, 1) := by decide +kernel
theorem d_M_isSlot_0 : decode b_M_isSlot 0 = .ok (.iload_n 0, 1) := by decide +kernel
theorem d_M_isSlot_1 : decode b_M_isSlot 1 = .ok (.iconst 2, 1) := by decide +kernel
theorem d_M_isSlot_2 : decode b_M_isSlot 2 = .ok (.if_icmp .lt 7, 3) := by decide +kernel
theorem d_M_isSlot_5 : decode b_M_isSlot 5 = .ok (.iconst 1, 1) := by decide +kernel
theorem d_M_isSlot_6 : decode b_M_isSlot 6 = .ok (.goto 4, 3) := by decide +kernel
theorem d_M_isSlot_9 : decode b_M_isSlot 9 = .ok (.iconst 0, 1) := by decide +kernel
theorem d_M_isSlot_10 : decode b_M_isSlot 10 = .ok (.ireturn, 1) := by decide +kernel
theorem d_M_token_0 : decode b_M_token 0 = .ok (.iload_n 1, 1) := by decide +kernel
theorem d_M_token_1 : decode b_M_token 1 = .ok (.iconst 0, 1) := by decide +kernel
theorem d_M_token_2 : decode b_M_token 2 = .ok (.aload_n 0, 1) := by decide +kernel
theorem d_M_token_3 : decode b_M_token 3 = .ok (.getfield 134, 3) := by decide +kernel
theorem d_M_token_6 : decode b_M_token 6 = .ok (.iconst 1, 1) := by decide +kernel
theorem d_M_token_7 : decode b_M_token 7 = .ok (.isub, 1) := by decide +kernel
theorem d_M_token_8 : decode b_M_token 8 = .ok (.invokestatic 112, 3) := by decide +kernel
theorem d_M_token_11 : decode b_M_token 11 = .ok (.ifCond .ne 6, 3) := by decide +kernel
theorem d_M_token_14 : decode b_M_token 14 = .ok (.bipush (-101), 2) := by decide +kernel
theorem d_M_token_16 : decode b_M_token 16 = .ok (.ireturn, 1) := by decide +kernel
theorem d_M_token_17 : decode b_M_token 17 = .ok (.iload_n 2, 1) := by decide +kernel
theorem d_M_token_18 : decode b_M_token 18 = .ok (.iconst 0, 1) := by decide +kernel
theorem d_M_token_19 : decode b_M_token 19 = .ok (.bipush 11, 2) := by decide +kernel
theorem d_M_token_21 : decode b_M_token 21 = .ok (.invokestatic 112, 3) := by decide +kernel
theorem d_M_token_24 : decode b_M_token 24 = .ok (.ifCond .eq 31, 3) := by decide +kernel
theorem d_M_token_27 : decode b_M_token 27 = .ok (.iload_n 2, 1) := by decide +kernel
theorem d_M_token_28 : decode b_M_token 28 = .ok (.iconst 1, 1) := by decide +kernel
theorem d_M_token_29 : decode b_M_token 29 = .ok (.if_icmp .gt 10, 3) := by decide +kernel
theorem d_M_token_32 : decode b_M_token 32 = .ok (.iload_n 3, 1) := by decide +kernel
theorem d_M_token_33 : decode b_M_token 33 = .ok (.invokestatic 119, 3) := by decide +kernel
theorem d_M_token_36 : decode b_M_token 36 = .ok (.ifCond .eq 19, 3) := by decide +kernel
theorem d_M_token_39 : decode b_M_token 39 = .ok (.iload_n 2, 1) := by decide +kernel
theorem d_M_token_40 : decode b_M_token 40 = .ok (.bipush 11, 2) := by decide +kernel
theorem d_M_token_42 : decode b_M_token 42 = .ok (.if_icmp .ne 16, 3) := by decide +kernel
theorem d_M_token_45 : decode b_M_token 45 = .ok (.iload_n 3, 1) := by decide +kernel
theorem d_M_token_46 : decode b_M_token 46 = .ok (.iconst 0, 1) := by decide +kernel
theorem d_M_token_47 : decode b_M_token 47 = .ok (.bipush 9, 2) := by decide +kernel
theorem d_M_token_49 : decode b_M_token 49 = .ok (.invokestatic 112, 3) := by decide +kernel
theorem d_M_token_52 : decode b_M_token 52 = .ok (.ifCond .ne 6, 3) := by decide +kernel
theorem d_M_token_55 : decode b_M_token 55 = .ok (.bipush (-102), 2) := by decide +kernel
theorem d_M_token_57 : decode b_M_token 57 = .ok (.ireturn, 1) := by decide +kernel
theorem d_M_token_58 : decode b_M_token 58 = .ok (.aload_n 0, 1) := by decide +kernel
theorem d_M_token_59 : decode b_M_token 59 = .ok (.getfield 26, 3) := by decide +kernel
theorem d_M_token_62 : decode b_M_token 62 = .ok (.iload_n 1, 1) := by decide +kernel
theorem d_M_token_63 : decode b_M_token 63 = .ok (.iaload, 1) := by decide +kernel
theorem d_M_token_64 : decode b_M_token 64 = .ok (.istore 4, 2) := by decide +kernel
theorem d_M_token_66 : decode b_M_token 66 = .ok (.iload 4, 2) := by decide +kernel
theorem d_M_token_68 : decode b_M_token 68 = .ok (.ifCond .ne 7, 3) := by decide +kernel
theorem d_M_token_71 : decode b_M_token 71 = .ok (.iconst (-1), 1) := by decide +kernel
theorem d_M_token_72 : decode b_M_token 72 = .ok (.goto 17, 3) := by decide +kernel
theorem d_M_token_75 : decode b_M_token 75 = .ok (.aload_n 0, 1) := by decide +kernel
theorem d_M_token_76 : decode b_M_token 76 = .ok (.getfield 29, 3) := by decide +kernel
theorem d_M_token_79 : decode b_M_token 79 = .ok (.bipush 8, 2) := by decide +kernel
theorem d_M_token_81 : decode b_M_token 81 = .ok (.iload_n 1, 1) := by decide +kernel
theorem d_M_token_82 : decode b_M_token 82 = .ok (.imul, 1) := by decide +kernel
theorem d_M_token_83 : decode b_M_token 83 = .ok (.iload 4, 2) := by decide +kernel
theorem d_M_token_85 : decode b_M_token 85 = .ok (.iadd, 1) := by decide +kernel
theorem d_M_token_86 : decode b_M_token 86 = .ok (.iconst 1, 1) := by decide +kernel
theorem d_M_token_87 : decode b_M_token 87 = .ok (.isub, 1) := by decide +kernel
theorem d_M_token_88 : decode b_M_token 88 = .ok (.iaload, 1) := by decide +kernel
theorem d_M_token_89 : decode b_M_token 89 = .ok (.istore 5, 2) := by decide +kernel
theorem d_M_token_91 : decode b_M_token 91 = .ok (.iconst 0, 1) := by decide +kernel
theorem d_M_token_92 : decode b_M_token 92 = .ok (.istore 6, 2) := by decide +kernel
theorem d_M_token_94 : decode b_M_token 94 = .ok (.iconst 0, 1) := by decide +kernel
theorem d_M_token_95 : decode b_M_token 95 = .ok (.istore 7, 2) := by decide +kernel
theorem d_M_token_97 : decode b_M_token 97 = .ok (.iload 7, 2) := by decide +kernel
theorem d_M_token_99 : decode b_M_token 99 = .ok (.iload 4, 2) := by decide +kernel
theorem d_M_token_101 : decode b_M_token 101 = .ok (.if_icmp .ge 37, 3) := by decide +kernel
theorem d_M_token_104 : decode b_M_token 104 = .ok (.iload 6, 2) := by decide +kernel
theorem d_M_token_106 : decode b_M_token 106 = .ok (.aload_n 0, 1) := by decide +kernel
theorem d_M_token_107 : decode b_M_token 107 = .ok (.getfield 29, 3) := by decide +kernel
theorem d_M_token_110 : decode b_M_token 110 = .ok (.bipush 8, 2) := by decide +kernel
theorem d_M_token_112 : decode b_M_token 112 = .ok (.iload_n 1, 1) := by decide +kernel
theorem d_M_token_113 : decode b_M_token 113 = .ok (.imul, 1) := by decide +kernel
theorem d_M_token_114 : decode b_M_token 114 = .ok (.iload 7, 2) := by decide +kernel
theorem d_M_token_116 : decode b_M_token 116 = .ok (.iadd, 1) := by decide +kernel
theorem d_M_token_117 : decode b_M_token 117 = .ok (.iaload, 1) := by decide +kernel
theorem d_M_token_118 : decode b_M_token 118 = .ok (.invokestatic 137, 3) := by decide +kernel
theorem d_M_token_121 : decode b_M_token 121 = .ok (.ifCond .eq 7, 3) := by decide +kernel
theorem d_M_token_124 : decode b_M_token 124 = .ok (.iconst 1, 1) := by decide +kernel
theorem d_M_token_125 : decode b_M_token 125 = .ok (.goto 4, 3) := by decide +kernel
theorem d_M_token_128 : decode b_M_token 128 = .ok (.iconst 0, 1) := by decide +kernel
theorem d_M_token_129 : decode b_M_token 129 = .ok (.iadd, 1) := by decide +kernel
theorem d_M_token_130 : decode b_M_token 130 = .ok (.istore 6, 2) := by decide +kernel
theorem d_M_token_132 : decode b_M_token 132 = .ok (.iinc 7 1, 3) := by decide +kernel
theorem d_M_token_135 : decode b_M_token 135 = .ok (.goto (-38), 3) := by decide +kernel
theorem d_M_token_138 : decode b_M_token 138 = .ok (.iload_n 2, 1) := by decide +kernel
theorem d_M_token_139 : decode b_M_token 139 = .ok (.iconst 1, 1) := by decide +kernel
theorem d_M_token_140 : decode b_M_token 140 = .ok (.if_icmp .ne 14, 3) := by decide +kernel
theorem d_M_token_143 : decode b_M_token 143 = .ok (.iload 5, 2) := by decide +kernel
theorem d_M_token_145 : decode b_M_token 145 = .ok (.ifCond .eq 9, 3) := by decide +kernel
theorem d_M_token_148 : decode b_M_token 148 = .ok (.iload 5, 2) := by decide +kernel
theorem d_M_token_150 : decode b_M_token 150 = .ok (.iconst 1, 1) := by decide +kernel
theorem d_M_token_151 : decode b_M_token 151 = .ok (.if_icmp .ne 27, 3) := by decide +kernel
theorem d_M_token_154 : decode b_M_token 154 = .ok (.iload_n 2, 1) := by decide +kernel
theorem d_M_token_155 : decode b_M_token 155 = .ok (.invokestatic 137, 3) := by decide +kernel
theorem d_M_token_158 : decode b_M_token 158 = .ok (.ifCond .eq 9, 3) := by decide +kernel
theorem d_M_token_161 : decode b_M_token 161 = .ok (.iload 6, 2) := by decide +kernel
theorem d_M_token_163 : decode b_M_token 163 = .ok (.iconst 2, 1) := by decide +kernel
theorem d_M_token_164 : decode b_M_token 164 = .ok (.if_icmp .eq 14, 3) := by decide +kernel
theorem d_M_token_167 : decode b_M_token 167 = .ok (.iload 5, 2) := by decide +kernel
theorem d_M_token_169 : decode b_M_token 169 = .ok (.bipush 9, 2) := by decide +kernel
theorem d_M_token_171 : decode b_M_token 171 = .ok (.if_icmp .ne 10, 3) := by decide +kernel
theorem d_M_token_174 : decode b_M_token 174 = .ok (.iload_n 2, 1) := by decide +kernel
theorem d_M_token_175 : decode b_M_token 175 = .ok (.ifCond .eq 6, 3) := by decide +kernel
theorem d_M_token_178 : decode b_M_token 178 = .ok (.bipush (-103), 2) := by decide +kernel
theorem d_M_token_180 : decode b_M_token 180 = .ok (.ireturn, 1) := by decide +kernel
theorem d_M_token_181 : decode b_M_token 181 = .ok (.iload 4, 2) := by decide +kernel
theorem d_M_token_183 : decode b_M_token 183 = .ok (.bipush 8, 2) := by decide +kernel
theorem d_M_token_185 : decode b_M_token 185 = .ok (.if_icmp .ne 6, 3) := by decide +kernel
theorem d_M_token_188 : decode b_M_token 188 = .ok (.bipush (-104), 2) := by decide +kernel
theorem d_M_token_190 : decode b_M_token 190 = .ok (.ireturn, 1) := by decide +kernel
theorem d_M_token_191 : decode b_M_token 191 = .ok (.aload_n 0, 1) := by decide +kernel
theorem d_M_token_192 : decode b_M_token 192 = .ok (.getfield 29, 3) := by decide +kernel
theorem d_M_token_195 : decode b_M_token 195 = .ok (.bipush 8, 2) := by decide +kernel
theorem d_M_token_197 : decode b_M_token 197 = .ok (.iload_n 1, 1) := by decide +kernel
theorem d_M_token_198 : decode b_M_token 198 = .ok (.imul, 1) := by decide +kernel
theorem d_M_token_199 : decode b_M_token 199 = .ok (.iload 4, 2) := by decide +kernel
theorem d_M_token_201 : decode b_M_token 201 = .ok (.iadd, 1) := by decide +kernel
theorem d_M_token_202 : decode b_M_token 202 = .ok (.iload_n 2, 1) := by decide +kernel
theorem d_M_token_203 : decode b_M_token 203 = .ok (.iastore, 1) := by decide +kernel
theorem d_M_token_204 : decode b_M_token 204 = .ok (.aload_n 0, 1) := by decide +kernel
theorem d_M_token_205 : decode b_M_token 205 = .ok (.getfield 32, 3) := by decide +kernel
theorem d_M_token_208 : decode b_M_token 208 = .ok (.bipush 8, 2) := by decide +kernel
theorem d_M_token_210 : decode b_M_token 210 = .ok (.iload_n 1, 1) := by decide +kernel
theorem d_M_token_211 : decode b_M_token 211 = .ok (.imul, 1) := by decide +kernel
theorem d_M_token_212 : decode b_M_token 212 = .ok (.iload 4, 2) := by decide +kernel
theorem d_M_token_214 : decode b_M_token 214 = .ok (.iadd, 1) := by decide +kernel
theorem d_M_token_215 : decode b_M_token 215 = .ok (.iload_n 3, 1) := by decide +kernel
theorem d_M_token_216 : decode b_M_token 216 = .ok (.iastore, 1) := by decide +kernel
theorem d_M_token_217 : decode b_M_token 217 = .ok (.aload_n 0, 1) := by decide +kernel
theorem d_M_token_218 : decode b_M_token 218 = .ok (.getfield 26, 3) := by decide +kernel
theorem d_M_token_221 : decode b_M_token 221 = .ok (.iload_n 1, 1) := by decide +kernel
theorem d_M_token_222 : decode b_M_token 222 = .ok (.dup2, 1) := by decide +kernel
theorem d_M_token_223 : decode b_M_token 223 = .ok (.iaload, 1) := by decide +kernel
theorem d_M_token_224 : decode b_M_token 224 = .ok (.iconst 1, 1) := by decide +kernel
theorem d_M_token_225 : decode b_M_token 225 = .ok (.iadd, 1) := by decide +kernel
theorem d_M_token_226 : decode b_M_token 226 = .ok (.iastore, 1) := by decide +kernel
theorem d_M_token_227 : decode b_M_token 227 = .ok (.iload 4, 2) := by decide +kernel
theorem d_M_token_229 : decode b_M_token 229 = .ok (.iconst 1, 1) := by decide +kernel
theorem d_M_token_230 : decode b_M_token 230 = .ok (.iadd, 1) := by decide +kernel
theorem d_M_token_231 : decode b_M_token 231 = .ok (.ireturn, 1) := by decide +kernel
theorem d_M_thing_0 : decode b_M_thing 0 = .ok (.iload_n 1, 1) := by decide +kernel
theorem d_M_thing_1 : decode b_M_thing 1 = .ok (.iconst 0, 1) := by decide +kernel
theorem d_M_thing_2 : decode b_M_thing 2 = .ok (.bipush 15, 2) := by decide +kernel
theorem d_M_thing_4 : decode b_M_thing 4 = .ok (.invokestatic 112, 3) := by decide +kernel
theorem d_M_thing_7 : decode b_M_thing 7 = .ok (.ifCond .ne 6, 3) := by decide +kernel
theorem d_M_thing_10 : decode b_M_thing 10 = .ok (.bipush (-102), 2) := by decide +kernel
theorem d_M_thing_12 : decode b_M_thing 12 = .ok (.ireturn, 1) := by decide +kernel
theorem d_M_thing_13 : decode b_M_thing 13 = .ok (.aload_n 0, 1) := by decide +kernel
theorem d_M_thing_14 : decode b_M_thing 14 = .ok (.getfield 140, 3) := by decide +kernel
theorem d_M_thing_17 : decode b_M_thing 17 = .ok (.bipush 40, 2) := by decide +kernel
theorem d_M_thing_19 : decode b_M_thing 19 = .ok (.if_icmp .ne 6, 3) := by decide +kernel
theorem d_M_thing_22 : decode b_M_thing 22 = .ok (.bipush (-104), 2) := by decide +kernel
theorem d_M_thing_24 : decode b_M_thing 24 = .ok (.ireturn, 1) := by decide +kernel
theorem d_M_thing_25 : decode b_M_thing 25 = .ok (.aload_n 0, 1) := by decide +kernel
theorem d_M_thing_26 : decode b_M_thing 26 = .ok (.getfield 35, 3) := by decide +kernel
theorem d_M_thing_29 : decode b_M_thing 29 = .ok (.aload_n 0, 1) := by decide +kernel
theorem d_M_thing_30 : decode b_M_thing 30 = .ok (.getfield 140, 3) := by decide +kernel
theorem d_M_thing_33 : decode b_M_thing 33 = .ok (.iload_n 1, 1) := by decide +kernel
theorem d_M_thing_34 : decode b_M_thing 34 = .ok (.iastore, 1) := by decide +kernel
theorem d_M_thing_35 : decode b_M_thing 35 = .ok (.aload_n 0, 1) := by decide +kernel
theorem d_M_thing_36 : decode b_M_thing 36 = .ok (.getfield 38, 3) := by decide +kernel
theorem d_M_thing_39 : decode b_M_thing 39 = .ok (.aload_n 0, 1) := by decide +kernel
theorem d_M_thing_40 : decode b_M_thing 40 = .ok (.getfield 140, 3) := by decide +kernel
theorem d_M_thing_43 : decode b_M_thing 43 = .ok (.iconst 0, 1) := by decide +kernel
theorem d_M_thing_44 : decode b_M_thing 44 = .ok (.iastore, 1) := by decide +kernel
theorem d_M_thing_45 : decode b_M_thing 45 = .ok (.aload_n 0, 1) := by decide +kernel
theorem d_M_thing_46 : decode b_M_thing 46 = .ok (.dup, 1) := by decide +kernel
theorem d_M_thing_47 : decode b_M_thing 47 = .ok (.getfield 140, 3) := by decide +kernel
theorem d_M_thing_50 : decode b_M_thing 50 = .ok (.iconst 1, 1) := by decide +kernel
theorem d_M_thing_51 : decode b_M_thing 51 = .ok (.iadd, 1) := by decide +kernel
theorem d_M_thing_52 : decode b_M_thing 52 = .ok (.putfield 140, 3) := by decide +kernel
theorem d_M_thing_55 : decode b_M_thing 55 = .ok (.aload_n 0, 1) := by decide +kernel
theorem d_M_thing_56 : decode b_M_thing 56 = .ok (.getfield 140, 3) := by decide +kernel
theorem d_M_thing_59 : decode b_M_thing 59 = .ok (.iconst 1, 1) := by decide +kernel
theorem d_M_thing_60 : decode b_M_thing 60 = .ok (.isub, 1) := by decide +kernel
theorem d_M_thing_61 : decode b_M_thing 61 = .ok (.ireturn, 1) := by decide +kernel
theorem d_M_hasName_0 : decode b_M_hasName 0 = .ok (.iconst 0, 1) := by decide +kernel
theorem d_M_hasName_1 : decode b_M_hasName 1 = .ok (.istore_n 3, 1) := by decide +kernel
theorem d_M_hasName_2 : decode b_M_hasName 2 = .ok (.iconst 0, 1) := by decide +kernel
theorem d_M_hasName_3 : decode b_M_hasName 3 = .ok (.istore 4, 2) := by decide +kernel
theorem d_M_hasName_5 : decode b_M_hasName 5 = .ok (.iload 4, 2) := by decide +kernel
theorem d_M_hasName_7 : decode b_M_hasName 7 = .ok (.aload_n 0, 1) := by decide +kernel
theorem d_M_hasName_8 : decode b_M_hasName 8 = .ok (.getfield 38, 3) := by decide +kernel
theorem d_M_hasName_11 : decode b_M_hasName 11 = .ok (.iload_n 1, 1) := by decide +kernel
theorem d_M_hasName_12 : decode b_M_hasName 12 = .ok (.iaload, 1) := by decide +kernel
theorem d_M_hasName_13 : decode b_M_hasName 13 = .ok (.if_icmp .ge 34, 3) := by decide +kernel
theorem d_M_hasName_16 : decode b_M_hasName 16 = .ok (.iload_n 3, 1) := by decide +kernel
theorem d_M_hasName_17 : decode b_M_hasName 17 = .ok (.ifCond .ne 18, 3) := by decide +kernel
theorem d_M_hasName_20 : decode b_M_hasName 20 = .ok (.aload_n 0, 1) := by decide +kernel
theorem d_M_hasName_21 : decode b_M_hasName 21 = .ok (.getfield 41, 3) := by decide +kernel
theorem d_M_hasName_24 : decode b_M_hasName 24 = .ok (.iconst 4, 1) := by decide +kernel
theorem d_M_hasName_25 : decode b_M_hasName 25 = .ok (.iload_n 1, 1) := by decide +kernel
theorem d_M_hasName_26 : decode b_M_hasName 26 = .ok (.imul, 1) := by decide +kernel
theorem d_M_hasName_27 : decode b_M_hasName 27 = .ok (.iload 4, 2) := by decide +kernel
theorem d_M_hasName_29 : decode b_M_hasName 29 = .ok (.iadd, 1) := by decide +kernel
theorem d_M_hasName_30 : decode b_M_hasName 30 = .ok (.iaload, 1) := by decide +kernel
theorem d_M_hasName_31 : decode b_M_hasName 31 = .ok (.iload_n 2, 1) := by decide +kernel
theorem d_M_hasName_32 : decode b_M_hasName 32 = .ok (.if_icmp .ne 7, 3) := by decide +kernel
theorem d_M_hasName_35 : decode b_M_hasName 35 = .ok (.iconst 1, 1) := by decide +kernel
theorem d_M_hasName_36 : decode b_M_hasName 36 = .ok (.goto 4, 3) := by decide +kernel
theorem d_M_hasName_39 : decode b_M_hasName 39 = .ok (.iconst 0, 1) := by decide +kernel
theorem d_M_hasName_40 : decode b_M_hasName 40 = .ok (.istore_n 3, 1) := by decide +kernel
theorem d_M_hasName_41 : decode b_M_hasName 41 = .ok (.iinc 4 1, 3) := by decide +kernel
theorem d_M_hasName_44 : decode b_M_hasName 44 = .ok (.goto (-39), 3) := by decide +kernel
theorem d_M_hasName_47 : decode b_M_hasName 47 = .ok (.iload_n 3, 1) := by decide +kernel
theorem d_M_hasName_48 : decode b_M_hasName 48 = .ok (.ireturn, 1) := by decide +kernel
theorem d_M_name_0 : decode b_M_name 0 = .ok (.iload_n 1, 1) := by decide +kernel
theorem d_M_name_1 : decode b_M_name 1 = .ok (.iconst 0, 1) := by decide +kernel
theorem d_M_name_2 : decode b_M_name 2 = .ok (.aload_n 0, 1) := by decide +kernel
theorem d_M_name_3 : decode b_M_name 3 = .ok (.getfield 140, 3) := by decide +kernel
theorem d_M_name_6 : decode b_M_name 6 = .ok (.iconst 1, 1) := by decide +kernel
theorem d_M_name_7 : decode b_M_name 7 = .ok (.isub, 1) := by decide +kernel
theorem d_M_name_8 : decode b_M_name 8 = .ok (.invokestatic 112, 3) := by decide +kernel
theorem d_M_name_11 : decode b_M_name 11 = .ok (.ifCond .ne 6, 3) := by decide +kernel
theorem d_M_name_14 : decode b_M_name 14 = .ok (.bipush (-101), 2) := by decide +kernel
theorem d_M_name_16 : decode b_M_name 16 = .ok (.ireturn, 1) := by decide +kernel
theorem d_M_name_17 : decode b_M_name 17 = .ok (.iload_n 2, 1) := by decide +kernel
theorem d_M_name_18 : decode b_M_name 18 = .ok (.invokestatic 119, 3) := by decide +kernel
theorem d_M_name_21 : decode b_M_name 21 = .ok (.ifCond .ne 6, 3) := by decide +kernel
theorem d_M_name_24 : decode b_M_name 24 = .ok (.bipush (-102), 2) := by decide +kernel
theorem d_M_name_26 : decode b_M_name 26 = .ok (.ireturn, 1) := by decide +kernel
theorem d_M_name_27 : decode b_M_name 27 = .ok (.aload_n 0, 1) := by decide +kernel
theorem d_M_name_28 : decode b_M_name 28 = .ok (.iload_n 1, 1) := by decide +kernel
theorem d_M_name_29 : decode b_M_name 29 = .ok (.iload_n 2, 1) := by decide +kernel
theorem d_M_name_30 : decode b_M_name 30 = .ok (.invokevirtual 143, 3) := by decide +kernel
theorem d_M_name_33 : decode b_M_name 33 = .ok (.ifCond .eq 10, 3) := by decide +kernel
theorem d_M_name_36 : decode b_M_name 36 = .ok (.aload_n 0, 1) := by decide +kernel
theorem d_M_name_37 : decode b_M_name 37 = .ok (.getfield 38, 3) := by decide +kernel
theorem d_M_name_40 : decode b_M_name 40 = .ok (.iload_n 1, 1) := by decide +kernel
theorem d_M_name_41 : decode b_M_name 41 = .ok (.iaload, 1) := by decide +kernel
theorem d_M_name_42 : decode b_M_name 42 = .ok (.ireturn, 1) := by decide +kernel
theorem d_M_name_43 : decode b_M_name 43 = .ok (.aload_n 0, 1) := by decide +kernel
theorem d_M_name_44 : decode b_M_name 44 = .ok (.getfield 38, 3) := by decide +kernel
theorem d_M_name_47 : decode b_M_name 47 = .ok (.iload_n 1, 1) := by decide +kernel
theorem d_M_name_48 : decode b_M_name 48 = .ok (.iaload, 1) := by decide +kernel
theorem d_M_name_49 : decode b_M_name 49 = .ok (.iconst 4, 1) := by decide +kernel
theorem d_M_name_50 : decode b_M_name 50 = .ok (.if_icmp .ne 6, 3) := by decide +kernel
theorem d_M_name_53 : decode b_M_name 53 = .ok (.bipush (-104), 2) := by decide +kernel
theorem d_M_name_55 : decode b_M_name 55 = .ok (.ireturn, 1) := by decide +kernel
theorem d_M_name_56 : decode b_M_name 56 = .ok (.aload_n 0, 1) := by decide +kernel
theorem d_M_name_57 : decode b_M_name 57 = .ok (.getfield 41, 3) := by decide +kernel
theorem d_M_name_60 : decode b_M_name 60 = .ok (.iconst 4, 1) := by decide +kernel
theorem d_M_name_61 : decode b_M_name 61 = .ok (.iload_n 1, 1) := by decide +kernel
theorem d_M_name_62 : decode b_M_name 62 = .ok (.imul, 1) := by decide +kernel
theorem d_M_name_63 : decode b_M_name 63 = .ok (.aload_n 0, 1) := by decide +kernel
theorem d_M_name_64 : decode b_M_name 64 = .ok (.getfield 38, 3) := by decide +kernel
theorem d_M_name_67 : decode b_M_name 67 = .ok (.iload_n 1, 1) := by decide +kernel
theorem d_M_name_68 : decode b_M_name 68 = .ok (.iaload, 1) := by decide +kernel
theorem d_M_name_69 : decode b_M_name 69 = .ok (.iadd, 1) := by decide +kernel
theorem d_M_name_70 : decode b_M_name 70 = .ok (.iload_n 2, 1) := by decide +kernel
theorem d_M_name_71 : decode b_M_name 71 = .ok (.iastore, 1) := by decide +kernel
theorem d_M_name_72 : decode b_M_name 72 = .ok (.aload_n 0, 1) := by decide +kernel
theorem d_M_name_73 : decode b_M_name 73 = .ok (.getfield 38, 3) := by decide +kernel
theorem d_M_name_76 : decode b_M_name 76 = .ok (.iload_n 1, 1) := by decide +kernel
theorem d_M_name_77 : decode b_M_name 77 = .ok (.dup2, 1) := by decide +kernel
theorem d_M_name_78 : decode b_M_name 78 = .ok (.iaload, 1) := by decide +kernel
theorem d_M_name_79 : decode b_M_name 79 = .ok (.iconst 1, 1) := by decide +kernel
theorem d_M_name_80 : decode b_M_name 80 = .ok (.iadd, 1) := by decide +kernel
theorem d_M_name_81 : decode b_M_name 81 = .ok (.iastore, 1) := by decide +kernel
theorem d_M_name_82 : decode b_M_name 82 = .ok (.aload_n 0, 1) := by decide +kernel
theorem d_M_name_83 : decode b_M_name 83 = .ok (.getfield 38, 3) := by decide +kernel
theorem d_M_name_86 : decode b_M_name 86 = .ok (.iload_n 1, 1) := by decide +kernel
theorem d_M_name_87 : decode b_M_name 87 = .ok (.iaload, 1) := by decide +kernel
theorem d_M_name_88 : decode b_M_name 88 = .ok (.ireturn, 1) := by decide +kernel
theorem d_M_flags_0 : decode b_M_flags 0 = .ok (.iload_n 1, 1) := by decide +kernel
theorem d_M_flags_1 : decode b_M_flags 1 = .ok (.iconst 0, 1) := by decide +kernel
theorem d_M_flags_2 : decode b_M_flags 2 = .ok (.aload_n 0, 1) := by decide +kernel
theorem d_M_flags_3 : decode b_M_flags 3 = .ok (.getfield 140, 3) := by decide +kernel
theorem d_M_flags_6 : decode b_M_flags 6 = .ok (.iconst 1, 1) := by decide +kernel
theorem d_M_flags_7 : decode b_M_flags 7 = .ok (.isub, 1) := by decide +kernel
theorem d_M_flags_8 : decode b_M_flags 8 = .ok (.invokestatic 112, 3) := by decide +kernel
theorem d_M_flags_11 : decode b_M_flags 11 = .ok (.ifCond .ne 6, 3) := by decide +kernel
theorem d_M_flags_14 : decode b_M_flags 14 = .ok (.bipush (-101), 2) := by decide +kernel
theorem d_M_flags_16 : decode b_M_flags 16 = .ok (.ireturn, 1) := by decide +kernel
theorem d_M_flags_17 : decode b_M_flags 17 = .ok (.iload_n 2, 1) := by decide +kernel
theorem d_M_flags_18 : decode b_M_flags 18 = .ok (.iconst 0, 1) := by decide +kernel
theorem d_M_flags_19 : decode b_M_flags 19 = .ok (.bipush 15, 2) := by decide +kernel
theorem d_M_flags_21 : decode b_M_flags 21 = .ok (.invokestatic 112, 3) := by decide +kernel
theorem d_M_flags_24 : decode b_M_flags 24 = .ok (.ifCond .ne 6, 3) := by decide +kernel
theorem d_M_flags_27 : decode b_M_flags 27 = .ok (.bipush (-102), 2) := by decide +kernel
theorem d_M_flags_29 : decode b_M_flags 29 = .ok (.ireturn, 1) := by decide +kernel
theorem d_M_flags_30 : decode b_M_flags 30 = .ok (.aload_n 0, 1) := by decide +kernel
theorem d_M_flags_31 : decode b_M_flags 31 = .ok (.getfield 35, 3) := by decide +kernel
theorem d_M_flags_34 : decode b_M_flags 34 = .ok (.iload_n 1, 1) := by decide +kernel
theorem d_M_flags_35 : decode b_M_flags 35 = .ok (.iaload, 1) := by decide +kernel
theorem d_M_flags_36 : decode b_M_flags 36 = .ok (.istore_n 3, 1) := by decide +kernel
theorem d_M_flags_37 : decode b_M_flags 37 = .ok (.aload_n 0, 1) := by decide +kernel
theorem d_M_flags_38 : decode b_M_flags 38 = .ok (.getfield 35, 3) := by decide +kernel
theorem d_M_flags_41 : decode b_M_flags 41 = .ok (.iload_n 1, 1) := by decide +kernel
theorem d_M_flags_42 : decode b_M_flags 42 = .ok (.iload_n 2, 1) := by decide +kernel
theorem d_M_flags_43 : decode b_M_flags 43 = .ok (.iastore, 1) := by decide +kernel
theorem d_M_flags_44 : decode b_M_flags 44 = .ok (.iload_n 3, 1) := by decide +kernel
theorem d_M_flags_45 : decode b_M_flags 45 = .ok (.ireturn, 1) := by decide +kernel
theorem d_M_pairOf_0 : decode b_M_pairOf 0 = .ok (.iconst 0, 1) := by decide +kernel
theorem d_M_pairOf_1 : decode b_M_pairOf 1 = .ok (.istore_n 3, 1) := by decide +kernel
theorem d_M_pairOf_2 : decode b_M_pairOf 2 = .ok (.iload_n 3, 1) := by decide +kernel
theorem d_M_pairOf_3 : decode b_M_pairOf 3 = .ok (.aload_n 0, 1) := by decide +kernel
theorem d_M_pairOf_4 : decode b_M_pairOf 4 = .ok (.getfield 147, 3) := by decide +kernel
theorem d_M_pairOf_7 : decode b_M_pairOf 7 = .ok (.if_icmp .ge 29, 3) := by decide +kernel
theorem d_M_pairOf_10 : decode b_M_pairOf 10 = .ok (.aload_n 0, 1) := by decide +kernel
theorem d_M_pairOf_11 : decode b_M_pairOf 11 = .ok (.getfield 44, 3) := by decide +kernel
theorem d_M_pairOf_14 : decode b_M_pairOf 14 = .ok (.iload_n 3, 1) := by decide +kernel
theorem d_M_pairOf_15 : decode b_M_pairOf 15 = .ok (.iaload, 1) := by decide +kernel
theorem d_M_pairOf_16 : decode b_M_pairOf 16 = .ok (.iload_n 1, 1) := by decide +kernel
theorem d_M_pairOf_17 : decode b_M_pairOf 17 = .ok (.if_icmp .ne 13, 3) := by decide +kernel
theorem d_M_pairOf_20 : decode b_M_pairOf 20 = .ok (.aload_n 0, 1) := by decide +kernel
theorem d_M_pairOf_21 : decode b_M_pairOf 21 = .ok (.getfield 47, 3) := by decide +kernel
theorem d_M_pairOf_24 : decode b_M_pairOf 24 = .ok (.iload_n 3, 1) := by decide +kernel
theorem d_M_pairOf_25 : decode b_M_pairOf 25 = .ok (.iaload, 1) := by decide +kernel
theorem d_M_pairOf_26 : decode b_M_pairOf 26 = .ok (.iload_n 2, 1) := by decide +kernel
theorem d_M_pairOf_27 : decode b_M_pairOf 27 = .ok (.if_icmp .eq 9, 3) := by decide +kernel
theorem d_M_pairOf_30 : decode b_M_pairOf 30 = .ok (.iinc 3 1, 3) := by decide +kernel
theorem d_M_pairOf_33 : decode b_M_pairOf 33 = .ok (.goto (-31), 3) := by decide +kernel
theorem d_M_pairOf_36 : decode b_M_pairOf 36 = .ok (.iload_n 3, 1) := by decide +kernel
theorem d_M_pairOf_37 : decode b_M_pairOf 37 = .ok (.ireturn, 1) := by decide +kernel
theorem d_M_custom_0 : decode b_M_custom 0 = .ok (.iload_n 1, 1) := by decide +kernel
theorem d_M_custom_1 : decode b_M_custom 1 = .ok (.iconst 0, 1) := by decide +kernel
theorem d_M_custom_2 : decode b_M_custom 2 = .ok (.bipush 9, 2) := by decide +kernel
theorem d_M_custom_4 : decode b_M_custom 4 = .ok (.invokestatic 112, 3) := by decide +kernel
theorem d_M_custom_7 : decode b_M_custom 7 = .ok (.ifCond .eq 26, 3) := by decide +kernel
theorem d_M_custom_10 : decode b_M_custom 10 = .ok (.iload_n 2, 1) := by decide +kernel
theorem d_M_custom_11 : decode b_M_custom 11 = .ok (.bipush 10, 2) := by decide +kernel
theorem d_M_custom_13 : decode b_M_custom 13 = .ok (.sipush 19999, 3) := by decide +kernel
theorem d_M_custom_16 : decode b_M_custom 16 = .ok (.invokestatic 112, 3) := by decide +kernel
theorem d_M_custom_19 : decode b_M_custom 19 = .ok (.ifCond .eq 14, 3) := by decide +kernel
theorem d_M_custom_22 : decode b_M_custom 22 = .ok (.iload_n 3, 1) := by decide +kernel
theorem d_M_custom_23 : decode b_M_custom 23 = .ok (.iconst 0, 1) := by decide +kernel
theorem d_M_custom_24 : decode b_M_custom 24 = .ok (.sipush 9999, 3) := by decide +kernel
theorem d_M_custom_27 : decode b_M_custom 27 = .ok (.invokestatic 112, 3) := by decide +kernel
theorem d_M_custom_30 : decode b_M_custom 30 = .ok (.ifCond .ne 6, 3) := by decide +kernel
theorem d_M_custom_33 : decode b_M_custom 33 = .ok (.bipush (-102), 2) := by decide +kernel
theorem d_M_custom_35 : decode b_M_custom 35 = .ok (.ireturn, 1) := by decide +kernel
theorem d_M_custom_36 : decode b_M_custom 36 = .ok (.aload_n 0, 1) := by decide +kernel
theorem d_M_custom_37 : decode b_M_custom 37 = .ok (.iload_n 1, 1) := by decide +kernel
theorem d_M_custom_38 : decode b_M_custom 38 = .ok (.iload_n 2, 1) := by decide +kernel
theorem d_M_custom_39 : decode b_M_custom 39 = .ok (.invokevirtual 150, 3) := by decide +kernel
theorem d_M_custom_42 : decode b_M_custom 42 = .ok (.istore 4, 2) := by decide +kernel
theorem d_M_custom_44 : decode b_M_custom 44 = .ok (.iload 4, 2) := by decide +kernel
theorem d_M_custom_46 : decode b_M_custom 46 = .ok (.bipush 40, 2) := by decide +kernel
theorem d_M_custom_48 : decode b_M_custom 48 = .ok (.if_icmp .ne 6, 3) := by decide +kernel
theorem d_M_custom_51 : decode b_M_custom 51 = .ok (.bipush (-104), 2) := by decide +kernel
theorem d_M_custom_53 : decode b_M_custom 53 = .ok (.ireturn, 1) := by decide +kernel
theorem d_M_custom_54 : decode b_M_custom 54 = .ok (.aload_n 0, 1) := by decide +kernel
theorem d_M_custom_55 : decode b_M_custom 55 = .ok (.getfield 44, 3) := by decide +kernel
theorem d_M_custom_58 : decode b_M_custom 58 = .ok (.iload 4, 2) := by decide +kernel
theorem d_M_custom_60 : decode b_M_custom 60 = .ok (.iload_n 1, 1) := by decide +kernel
theorem d_M_custom_61 : decode b_M_custom 61 = .ok (.iastore, 1) := by decide +kernel
theorem d_M_custom_62 : decode b_M_custom 62 = .ok (.aload_n 0, 1) := by decide +kernel
theorem d_M_custom_63 : decode b_M_custom 63 = .ok (.getfield 47, 3) := by decide +kernel
theorem d_M_custom_66 : decode b_M_custom 66 = .ok (.iload 4, 2) := by decide +kernel
theorem d_M_custom_68 : decode b_M_custom 68 = .ok (.iload_n 2, 1) := by decide +kernel
theorem d_M_custom_69 : decode b_M_custom 69 = .ok (.iastore, 1) := by decide +kernel
theorem d_M_custom_70 : decode b_M_custom 70 = .ok (.aload_n 0, 1) := by decide +kernel
theorem d_M_custom_71 : decode b_M_custom 71 = .ok (.getfield 50, 3) := by decide +kernel
theorem d_M_custom_74 : decode b_M_custom 74 = .ok (.iload 4, 2) := by decide +kernel
theorem d_M_custom_76 : decode b_M_custom 76 = .ok (.iload_n 3, 1) := by decide +kernel
theorem d_M_custom_77 : decode b_M_custom 77 = .ok (.iastore, 1) := by decide +kernel
theorem d_M_custom_78 : decode b_M_custom 78 = .ok (.aload_n 0, 1) := by decide +kernel
theorem d_M_custom_79 : decode b_M_custom 79 = .ok (.iload 4, 2) := by decide +kernel
theorem d_M_custom_81 : decode b_M_custom 81 = .ok (.aload_n 0, 1) := by decide +kernel
theorem d_M_custom_82 : decode b_M_custom 82 = .ok (.getfield 147, 3) := by decide +kernel
theorem d_M_custom_85 : decode b_M_custom 85 = .ok (.if_icmp .ne 12, 3) := by decide +kernel
theorem d_M_custom_88 : decode b_M_custom 88 = .ok (.aload_n 0, 1) := by decide +kernel
theorem d_M_custom_89 : decode b_M_custom 89 = .ok (.getfield 147, 3) := by decide +kernel
theorem d_M_custom_92 : decode b_M_custom 92 = .ok (.iconst 1, 1) := by decide +kernel
theorem d_M_custom_93 : decode b_M_custom 93 = .ok (.iadd, 1) := by decide +kernel
theorem d_M_custom_94 : decode b_M_custom 94 = .ok (.goto 7, 3) := by decide +kernel
theorem d_M_custom_97 : decode b_M_custom 97 = .ok (.aload_n 0, 1) := by decide +kernel
theorem d_M_custom_98 : decode b_M_custom 98 = .ok (.getfield 147, 3) := by decide +kernel
theorem d_M_custom_101 : decode b_M_custom 101 = .ok (.putfield 147, 3) := by decide +kernel
theorem d_M_custom_104 : decode b_M_custom 104 = .ok (.aload_n 0, 1) := by decide +kernel
theorem d_M_custom_105 : decode b_M_custom 105 = .ok (.getfield 147, 3) := by decide +kernel
theorem d_M_custom_108 : decode b_M_custom 108 = .ok (.ireturn, 1) := by decide +kernel
theorem d_M_isAny_0 : decode b_M_isAny 0 = .ok (.iload_n 0, 1) := by decide +kernel
theorem d_M_isAny_1 : decode b_M_isAny 1 = .ok (.iconst 1, 1) := by decide +kernel
theorem d_M_isAny_2 : decode b_M_isAny 2 = .ok (.bipush 7, 2) := by decide +kernel
theorem d_M_isAny_4 : decode b_M_isAny 4 = .ok (.invokestatic 112, 3) := by decide +kernel
theorem d_M_isAny_7 : decode b_M_isAny 7 = .ok (.ifCond .ne 15, 3) := by decide +kernel
theorem d_M_isAny_10 : decode b_M_isAny 10 = .ok (.iload_n 0, 1) := by decide +kernel
theorem d_M_isAny_11 : decode b_M_isAny 11 = .ok (.bipush 10, 2) := by decide +kernel
theorem d_M_isAny_13 : decode b_M_isAny 13 = .ok (.sipush 19999, 3) := by decide +kernel
theorem d_M_isAny_16 : decode b_M_isAny 16 = .ok (.invokestatic 112, 3) := by decide +kernel
theorem d_M_isAny_19 : decode b_M_isAny 19 = .ok (.ifCond .eq 7, 3) := by decide +kernel
theorem d_M_isAny_22 : decode b_M_isAny 22 = .ok (.iconst 1, 1) := by decide +kernel
theorem d_M_isAny_23 : decode b_M_isAny 23 = .ok (.goto 4, 3) := by decide +kernel
theorem d_M_isAny_26 : decode b_M_isAny 26 = .ok (.iconst 0, 1) := by decide +kernel
theorem d_M_isAny_27 : decode b_M_isAny 27 = .ok (.ireturn, 1) := by decide +kernel
theorem d_M_word_0 : decode b_M_word 0 = .ok (.iload_n 1, 1) := by decide +kernel
theorem d_M_word_1 : decode b_M_word 1 = .ok (.invokestatic 154, 3) := by decide +kernel
theorem d_M_word_4 : decode b_M_word 4 = .ok (.ifCond .ne 6, 3) := by decide +kernel
theorem d_M_word_7 : decode b_M_word 7 = .ok (.bipush (-102), 2) := by decide +kernel
theorem d_M_word_9 : decode b_M_word 9 = .ok (.ireturn, 1) := by decide +kernel
theorem d_M_word_10 : decode b_M_word 10 = .ok (.aload_n 0, 1) := by decide +kernel
end
section
theorem d_M_word_11 : decode b_M_word 11 = .ok (.getfield 157, 3) := by decide +kernel
theorem d_M_word_14 : decode b_M_word 14 = .ok (.bipush 60, 2) := by decide +kernel
theorem d_M_word_16 : decode b_M_word 16 = .ok (.if_icmp .ne 6, 3) := by decide +kernel
theorem d_M_word_19 : decode b_M_word 19 = .ok (.bipush (-104), 2) := by decide +kernel
theorem d_M_word_21 : decode b_M_word 21 = .ok (.ireturn, 1) := by decide +kernel
theorem d_M_word_22 : decode b_M_word 22 = .ok (.aload_n 0, 1) := by decide +kernel
theorem d_M_word_23 : decode b_M_word 23 = .ok (.getfield 53, 3) := by decide +kernel
theorem d_M_word_26 : decode b_M_word 26 = .ok (.aload_n 0, 1) := by decide +kernel
theorem d_M_word_27 : decode b_M_word 27 = .ok (.getfield 157, 3) := by decide +kernel
theorem d_M_word_30 : decode b_M_word 30 = .ok (.iload_n 1, 1) := by decide +kernel
theorem d_M_word_31 : decode b_M_word 31 = .ok (.iastore, 1) := by decide +kernel
theorem d_M_word_32 : decode b_M_word 32 = .ok (.aload_n 0, 1) := by decide +kernel
theorem d_M_word_33 : decode b_M_word 33 = .ok (.dup, 1) := by decide +kernel
theorem d_M_word_34 : decode b_M_word 34 = .ok (.getfield 157, 3) := by decide +kernel
theorem d_M_word_37 : decode b_M_word 37 = .ok (.iconst 1, 1) := by decide +kernel
theorem d_M_word_38 : decode b_M_word 38 = .ok (.iadd, 1) := by decide +kernel
theorem d_M_word_39 : decode b_M_word 39 = .ok (.putfield 157, 3) := by decide +kernel
theorem d_M_word_42 : decode b_M_word 42 = .ok (.aload_n 0, 1) := by decide +kernel
theorem d_M_word_43 : decode b_M_word 43 = .ok (.getfield 157, 3) := by decide +kernel
theorem d_M_word_46 : decode b_M_word 46 = .ok (.ireturn, 1) := by decide +kernel
theorem d_M_clear_0 : decode b_M_clear 0 = .ok (.aload_n 0, 1) := by decide +kernel
theorem d_M_clear_1 : decode b_M_clear 1 = .ok (.getfield 157, 3) := by decide +kernel
theorem d_M_clear_4 : decode b_M_clear 4 = .ok (.istore_n 1, 1) := by decide +kernel
theorem d_M_clear_5 : decode b_M_clear 5 = .ok (.aload_n 0, 1) := by decide +kernel
theorem d_M_clear_6 : decode b_M_clear 6 = .ok (.iconst 0, 1) := by decide +kernel
theorem d_M_clear_7 : decode b_M_clear 7 = .ok (.putfield 157, 3) := by decide +kernel
theorem d_M_clear_10 : decode b_M_clear 10 = .ok (.iload_n 1, 1) := by decide +kernel
theorem d_M_clear_11 : decode b_M_clear 11 = .ok (.ireturn, 1) := by decide +kernel
theorem d_M_take_0 : decode b_M_take 0 = .ok (.iconst 0, 1) := by decide +kernel
theorem d_M_take_1 : decode b_M_take 1 = .ok (.istore_n 3, 1) := by decide +kernel
theorem d_M_take_2 : decode b_M_take 2 = .ok (.iload_n 3, 1) := by decide +kernel
theorem d_M_take_3 : decode b_M_take 3 = .ok (.iload_n 2, 1) := by decide +kernel
theorem d_M_take_4 : decode b_M_take 4 = .ok (.if_icmp .ge 18, 3) := by decide +kernel
theorem d_M_take_7 : decode b_M_take 7 = .ok (.aload_n 0, 1) := by decide +kernel
theorem d_M_take_8 : decode b_M_take 8 = .ok (.getfield 56, 3) := by decide +kernel
theorem d_M_take_11 : decode b_M_take 11 = .ok (.iload_n 3, 1) := by decide +kernel
theorem d_M_take_12 : decode b_M_take 12 = .ok (.aload_n 1, 1) := by decide +kernel
theorem d_M_take_13 : decode b_M_take 13 = .ok (.iload_n 3, 1) := by decide +kernel
theorem d_M_take_14 : decode b_M_take 14 = .ok (.iaload, 1) := by decide +kernel
theorem d_M_take_15 : decode b_M_take 15 = .ok (.iastore, 1) := by decide +kernel
theorem d_M_take_16 : decode b_M_take 16 = .ok (.iinc 3 1, 3) := by decide +kernel
theorem d_M_take_19 : decode b_M_take 19 = .ok (.goto (-17), 3) := by decide +kernel
theorem d_M_take_22 : decode b_M_take 22 = .ok (.aload_n 0, 1) := by decide +kernel
theorem d_M_take_23 : decode b_M_take 23 = .ok (.iload_n 2, 1) := by decide +kernel
theorem d_M_take_24 : decode b_M_take 24 = .ok (.putfield 167, 3) := by decide +kernel
theorem d_M_take_27 : decode b_M_take 27 = .ok (.return_, 1) := by decide +kernel
theorem d_M_isHeld_0 : decode b_M_isHeld 0 = .ok (.aload_n 0, 1) := by decide +kernel
theorem d_M_isHeld_1 : decode b_M_isHeld 1 = .ok (.getfield 35, 3) := by decide +kernel
theorem d_M_isHeld_4 : decode b_M_isHeld 4 = .ok (.iload_n 1, 1) := by decide +kernel
theorem d_M_isHeld_5 : decode b_M_isHeld 5 = .ok (.iaload, 1) := by decide +kernel
theorem d_M_isHeld_6 : decode b_M_isHeld 6 = .ok (.bipush 6, 2) := by decide +kernel
theorem d_M_isHeld_8 : decode b_M_isHeld 8 = .ok (.iand, 1) := by decide +kernel
theorem d_M_isHeld_9 : decode b_M_isHeld 9 = .ok (.ifCond .eq 7, 3) := by decide +kernel
theorem d_M_isHeld_12 : decode b_M_isHeld 12 = .ok (.iconst 1, 1) := by decide +kernel
theorem d_M_isHeld_13 : decode b_M_isHeld 13 = .ok (.goto 4, 3) := by decide +kernel
theorem d_M_isHeld_16 : decode b_M_isHeld 16 = .ok (.iconst 0, 1) := by decide +kernel
theorem d_M_isHeld_17 : decode b_M_isHeld 17 = .ok (.ireturn, 1) := by decide +kernel
theorem d_M_isInScope_0 : decode b_M_isInScope 0 = .ok (.aload_n 0, 1) := by decide +kernel
theorem d_M_isInScope_1 : decode b_M_isInScope 1 = .ok (.getfield 35, 3) := by decide +kernel
theorem d_M_isInScope_4 : decode b_M_isInScope 4 = .ok (.iload_n 1, 1) := by decide +kernel
theorem d_M_isInScope_5 : decode b_M_isInScope 5 = .ok (.iaload, 1) := by decide +kernel
theorem d_M_isInScope_6 : decode b_M_isInScope 6 = .ok (.iconst 1, 1) := by decide +kernel
theorem d_M_isInScope_7 : decode b_M_isInScope 7 = .ok (.iand, 1) := by decide +kernel
theorem d_M_isInScope_8 : decode b_M_isInScope 8 = .ok (.ifCond .ne 11, 3) := by decide +kernel
theorem d_M_isInScope_11 : decode b_M_isInScope 11 = .ok (.aload_n 0, 1) := by decide +kernel
theorem d_M_isInScope_12 : decode b_M_isInScope 12 = .ok (.iload_n 1, 1) := by decide +kernel
theorem d_M_isInScope_13 : decode b_M_isInScope 13 = .ok (.invokevirtual 160, 3) := by decide +kernel
theorem d_M_isInScope_16 : decode b_M_isInScope 16 = .ok (.ifCond .eq 7, 3) := by decide +kernel
theorem d_M_isInScope_19 : decode b_M_isInScope 19 = .ok (.iconst 1, 1) := by decide +kernel
theorem d_M_isInScope_20 : decode b_M_isInScope 20 = .ok (.goto 4, 3) := by decide +kernel
theorem d_M_isInScope_23 : decode b_M_isInScope 23 = .ok (.iconst 0, 1) := by decide +kernel
theorem d_M_isInScope_24 : decode b_M_isInScope 24 = .ok (.ireturn, 1) := by decide +kernel
theorem d_M_phrase_0 : decode b_M_phrase 0 = .ok (.aload_n 0, 1) := by decide +kernel
theorem d_M_phrase_1 : decode b_M_phrase 1 = .ok (.lconst 0, 1) := by decide +kernel
theorem d_M_phrase_2 : decode b_M_phrase 2 = .ok (.putfield 170, 3) := by decide +kernel
theorem d_M_phrase_5 : decode b_M_phrase 5 = .ok (.aload_n 0, 1) := by decide +kernel
theorem d_M_phrase_6 : decode b_M_phrase 6 = .ok (.getfield 167, 3) := by decide +kernel
theorem d_M_phrase_9 : decode b_M_phrase 9 = .ok (.iload_n 1, 1) := by decide +kernel
theorem d_M_phrase_10 : decode b_M_phrase 10 = .ok (.isub, 1) := by decide +kernel
theorem d_M_phrase_11 : decode b_M_phrase 11 = .ok (.istore_n 2, 1) := by decide +kernel
theorem d_M_phrase_12 : decode b_M_phrase 12 = .ok (.iload_n 2, 1) := by decide +kernel
theorem d_M_phrase_13 : decode b_M_phrase 13 = .ok (.iconst 1, 1) := by decide +kernel
theorem d_M_phrase_14 : decode b_M_phrase 14 = .ok (.if_icmp .lt 103, 3) := by decide +kernel
theorem d_M_phrase_17 : decode b_M_phrase 17 = .ok (.iconst 0, 1) := by decide +kernel
theorem d_M_phrase_18 : decode b_M_phrase 18 = .ok (.istore_n 3, 1) := by decide +kernel
theorem d_M_phrase_19 : decode b_M_phrase 19 = .ok (.iload_n 3, 1) := by decide +kernel
theorem d_M_phrase_20 : decode b_M_phrase 20 = .ok (.aload_n 0, 1) := by decide +kernel
theorem d_M_phrase_21 : decode b_M_phrase 21 = .ok (.getfield 140, 3) := by decide +kernel
theorem d_M_phrase_24 : decode b_M_phrase 24 = .ok (.if_icmp .ge 76, 3) := by decide +kernel
theorem d_M_phrase_27 : decode b_M_phrase 27 = .ok (.aload_n 0, 1) := by decide +kernel
theorem d_M_phrase_28 : decode b_M_phrase 28 = .ok (.iload_n 3, 1) := by decide +kernel
theorem d_M_phrase_29 : decode b_M_phrase 29 = .ok (.invokevirtual 174, 3) := by decide +kernel
theorem d_M_phrase_32 : decode b_M_phrase 32 = .ok (.istore 4, 2) := by decide +kernel
theorem d_M_phrase_34 : decode b_M_phrase 34 = .ok (.iload_n 1, 1) := by decide +kernel
theorem d_M_phrase_35 : decode b_M_phrase 35 = .ok (.istore 5, 2) := by decide +kernel
theorem d_M_phrase_37 : decode b_M_phrase 37 = .ok (.iload 5, 2) := by decide +kernel
theorem d_M_phrase_39 : decode b_M_phrase 39 = .ok (.iload_n 1, 1) := by decide +kernel
theorem d_M_phrase_40 : decode b_M_phrase 40 = .ok (.iload_n 2, 1) := by decide +kernel
theorem d_M_phrase_41 : decode b_M_phrase 41 = .ok (.iadd, 1) := by decide +kernel
theorem d_M_phrase_42 : decode b_M_phrase 42 = .ok (.if_icmp .ge 28, 3) := by decide +kernel
theorem d_M_phrase_45 : decode b_M_phrase 45 = .ok (.iload 4, 2) := by decide +kernel
theorem d_M_phrase_47 : decode b_M_phrase 47 = .ok (.ifCond .eq 23, 3) := by decide +kernel
theorem d_M_phrase_50 : decode b_M_phrase 50 = .ok (.aload_n 0, 1) := by decide +kernel
theorem d_M_phrase_51 : decode b_M_phrase 51 = .ok (.iload_n 3, 1) := by decide +kernel
theorem d_M_phrase_52 : decode b_M_phrase 52 = .ok (.aload_n 0, 1) := by decide +kernel
theorem d_M_phrase_53 : decode b_M_phrase 53 = .ok (.getfield 56, 3) := by decide +kernel
theorem d_M_phrase_56 : decode b_M_phrase 56 = .ok (.iload 5, 2) := by decide +kernel
theorem d_M_phrase_58 : decode b_M_phrase 58 = .ok (.iaload, 1) := by decide +kernel
theorem d_M_phrase_59 : decode b_M_phrase 59 = .ok (.invokevirtual 143, 3) := by decide +kernel
theorem d_M_phrase_62 : decode b_M_phrase 62 = .ok (.istore 4, 2) := by decide +kernel
theorem d_M_phrase_64 : decode b_M_phrase 64 = .ok (.iinc 5 1, 3) := by decide +kernel
theorem d_M_phrase_67 : decode b_M_phrase 67 = .ok (.goto (-30), 3) := by decide +kernel
theorem d_M_phrase_70 : decode b_M_phrase 70 = .ok (.aload_n 0, 1) := by decide +kernel
theorem d_M_phrase_71 : decode b_M_phrase 71 = .ok (.iload 4, 2) := by decide +kernel
theorem d_M_phrase_73 : decode b_M_phrase 73 = .ok (.ifCond .eq 14, 3) := by decide +kernel
theorem d_M_phrase_76 : decode b_M_phrase 76 = .ok (.aload_n 0, 1) := by decide +kernel
theorem d_M_phrase_77 : decode b_M_phrase 77 = .ok (.getfield 170, 3) := by decide +kernel
theorem d_M_phrase_80 : decode b_M_phrase 80 = .ok (.lconst 1, 1) := by decide +kernel
theorem d_M_phrase_81 : decode b_M_phrase 81 = .ok (.iload_n 3, 1) := by decide +kernel
theorem d_M_phrase_82 : decode b_M_phrase 82 = .ok (.lshl, 1) := by decide +kernel
theorem d_M_phrase_83 : decode b_M_phrase 83 = .ok (.lor, 1) := by decide +kernel
theorem d_M_phrase_84 : decode b_M_phrase 84 = .ok (.goto 7, 3) := by decide +kernel
theorem d_M_phrase_87 : decode b_M_phrase 87 = .ok (.aload_n 0, 1) := by decide +kernel
theorem d_M_phrase_88 : decode b_M_phrase 88 = .ok (.getfield 170, 3) := by decide +kernel
theorem d_M_phrase_91 : decode b_M_phrase 91 = .ok (.putfield 170, 3) := by decide +kernel
theorem d_M_phrase_94 : decode b_M_phrase 94 = .ok (.iinc 3 1, 3) := by decide +kernel
theorem d_M_phrase_97 : decode b_M_phrase 97 = .ok (.goto (-78), 3) := by decide +kernel
theorem d_M_phrase_100 : decode b_M_phrase 100 = .ok (.aload_n 0, 1) := by decide +kernel
theorem d_M_phrase_101 : decode b_M_phrase 101 = .ok (.getfield 170, 3) := by decide +kernel
theorem d_M_phrase_104 : decode b_M_phrase 104 = .ok (.lconst 0, 1) := by decide +kernel
theorem d_M_phrase_105 : decode b_M_phrase 105 = .ok (.lcmp, 1) := by decide +kernel
theorem d_M_phrase_106 : decode b_M_phrase 106 = .ok (.ifCond .eq 5, 3) := by decide +kernel
theorem d_M_phrase_109 : decode b_M_phrase 109 = .ok (.iload_n 2, 1) := by decide +kernel
theorem d_M_phrase_110 : decode b_M_phrase 110 = .ok (.ireturn, 1) := by decide +kernel
theorem d_M_phrase_111 : decode b_M_phrase 111 = .ok (.iinc 2 (-1), 3) := by decide +kernel
theorem d_M_phrase_114 : decode b_M_phrase 114 = .ok (.goto (-102), 3) := by decide +kernel
theorem d_M_phrase_117 : decode b_M_phrase 117 = .ok (.iconst 0, 1) := by decide +kernel
theorem d_M_phrase_118 : decode b_M_phrase 118 = .ok (.ireturn, 1) := by decide +kernel
theorem d_M_has_0 : decode b_M_has 0 = .ok (.lload_n 0, 1) := by decide +kernel
theorem d_M_has_1 : decode b_M_has 1 = .ok (.iload_n 2, 1) := by decide +kernel
theorem d_M_has_2 : decode b_M_has 2 = .ok (.lshr, 1) := by decide +kernel
theorem d_M_has_3 : decode b_M_has 3 = .ok (.lconst 1, 1) := by decide +kernel
theorem d_M_has_4 : decode b_M_has 4 = .ok (.land, 1) := by decide +kernel
theorem d_M_has_5 : decode b_M_has 5 = .ok (.lconst 1, 1) := by decide +kernel
theorem d_M_has_6 : decode b_M_has 6 = .ok (.lcmp, 1) := by decide +kernel
theorem d_M_has_7 : decode b_M_has 7 = .ok (.ifCond .ne 7, 3) := by decide +kernel
theorem d_M_has_10 : decode b_M_has 10 = .ok (.iconst 1, 1) := by decide +kernel
theorem d_M_has_11 : decode b_M_has 11 = .ok (.goto 4, 3) := by decide +kernel
theorem d_M_has_14 : decode b_M_has 14 = .ok (.iconst 0, 1) := by decide +kernel
theorem d_M_has_15 : decode b_M_has 15 = .ok (.ireturn, 1) := by decide +kernel
theorem d_M_manyOf_0 : decode b_M_manyOf 0 = .ok (.iconst 0, 1) := by decide +kernel
theorem d_M_manyOf_1 : decode b_M_manyOf 1 = .ok (.istore_n 3, 1) := by decide +kernel
theorem d_M_manyOf_2 : decode b_M_manyOf 2 = .ok (.iconst 0, 1) := by decide +kernel
theorem d_M_manyOf_3 : decode b_M_manyOf 3 = .ok (.istore 4, 2) := by decide +kernel
theorem d_M_manyOf_5 : decode b_M_manyOf 5 = .ok (.iload 4, 2) := by decide +kernel
theorem d_M_manyOf_7 : decode b_M_manyOf 7 = .ok (.aload_n 0, 1) := by decide +kernel
theorem d_M_manyOf_8 : decode b_M_manyOf 8 = .ok (.getfield 140, 3) := by decide +kernel
theorem d_M_manyOf_11 : decode b_M_manyOf 11 = .ok (.if_icmp .ge 26, 3) := by decide +kernel
theorem d_M_manyOf_14 : decode b_M_manyOf 14 = .ok (.iload_n 3, 1) := by decide +kernel
theorem d_M_manyOf_15 : decode b_M_manyOf 15 = .ok (.lload_n 1, 1) := by decide +kernel
theorem d_M_manyOf_16 : decode b_M_manyOf 16 = .ok (.iload 4, 2) := by decide +kernel
theorem d_M_manyOf_18 : decode b_M_manyOf 18 = .ok (.invokestatic 163, 3) := by decide +kernel
theorem d_M_manyOf_21 : decode b_M_manyOf 21 = .ok (.ifCond .eq 7, 3) := by decide +kernel
theorem d_M_manyOf_24 : decode b_M_manyOf 24 = .ok (.iconst 1, 1) := by decide +kernel
theorem d_M_manyOf_25 : decode b_M_manyOf 25 = .ok (.goto 4, 3) := by decide +kernel
theorem d_M_manyOf_28 : decode b_M_manyOf 28 = .ok (.iconst 0, 1) := by decide +kernel
theorem d_M_manyOf_29 : decode b_M_manyOf 29 = .ok (.iadd, 1) := by decide +kernel
theorem d_M_manyOf_30 : decode b_M_manyOf 30 = .ok (.istore_n 3, 1) := by decide +kernel
theorem d_M_manyOf_31 : decode b_M_manyOf 31 = .ok (.iinc 4 1, 3) := by decide +kernel
theorem d_M_manyOf_34 : decode b_M_manyOf 34 = .ok (.goto (-29), 3) := by decide +kernel
theorem d_M_manyOf_37 : decode b_M_manyOf 37 = .ok (.iload_n 3, 1) := by decide +kernel
theorem d_M_manyOf_38 : decode b_M_manyOf 38 = .ok (.ireturn, 1) := by decide +kernel
theorem d_M_thingOf_0 : decode b_M_thingOf 0 = .ok (.iload_n 3, 1) := by decide +kernel
theorem d_M_thingOf_1 : decode b_M_thingOf 1 = .ok (.istore 4, 2) := by decide +kernel
theorem d_M_thingOf_3 : decode b_M_thingOf 3 = .ok (.iconst 0, 1) := by decide +kernel
theorem d_M_thingOf_4 : decode b_M_thingOf 4 = .ok (.istore 5, 2) := by decide +kernel
theorem d_M_thingOf_6 : decode b_M_thingOf 6 = .ok (.iload 5, 2) := by decide +kernel
theorem d_M_thingOf_8 : decode b_M_thingOf 8 = .ok (.aload_n 0, 1) := by decide +kernel
theorem d_M_thingOf_9 : decode b_M_thingOf 9 = .ok (.getfield 140, 3) := by decide +kernel
theorem d_M_thingOf_12 : decode b_M_thingOf 12 = .ok (.if_icmp .ge 29, 3) := by decide +kernel
theorem d_M_thingOf_15 : decode b_M_thingOf 15 = .ok (.lload_n 1, 1) := by decide +kernel
theorem d_M_thingOf_16 : decode b_M_thingOf 16 = .ok (.iload 5, 2) := by decide +kernel
theorem d_M_thingOf_18 : decode b_M_thingOf 18 = .ok (.invokestatic 163, 3) := by decide +kernel
theorem d_M_thingOf_21 : decode b_M_thingOf 21 = .ok (.ifCond .eq 14, 3) := by decide +kernel
theorem d_M_thingOf_24 : decode b_M_thingOf 24 = .ok (.iload 4, 2) := by decide +kernel
theorem d_M_thingOf_26 : decode b_M_thingOf 26 = .ok (.ifCond .ne 6, 3) := by decide +kernel
theorem d_M_thingOf_29 : decode b_M_thingOf 29 = .ok (.iload 5, 2) := by decide +kernel
theorem d_M_thingOf_31 : decode b_M_thingOf 31 = .ok (.ireturn, 1) := by decide +kernel
theorem d_M_thingOf_32 : decode b_M_thingOf 32 = .ok (.iinc 4 (-1), 3) := by decide +kernel
theorem d_M_thingOf_35 : decode b_M_thingOf 35 = .ok (.iinc 5 1, 3) := by decide +kernel
theorem d_M_thingOf_38 : decode b_M_thingOf 38 = .ok (.goto (-32), 3) := by decide +kernel
theorem d_M_thingOf_41 : decode b_M_thingOf 41 = .ok (.iconst (-1), 1) := by decide +kernel
theorem d_M_thingOf_42 : decode b_M_thingOf 42 = .ok (.ireturn, 1) := by decide +kernel
theorem d_M_isCreature_0 : decode b_M_isCreature 0 = .ok (.aload_n 0, 1) := by decide +kernel
theorem d_M_isCreature_1 : decode b_M_isCreature 1 = .ok (.getfield 35, 3) := by decide +kernel
theorem d_M_isCreature_4 : decode b_M_isCreature 4 = .ok (.iload_n 1, 1) := by decide +kernel
theorem d_M_isCreature_5 : decode b_M_isCreature 5 = .ok (.iaload, 1) := by decide +kernel
theorem d_M_isCreature_6 : decode b_M_isCreature 6 = .ok (.bipush 8, 2) := by decide +kernel
theorem d_M_isCreature_8 : decode b_M_isCreature 8 = .ok (.iand, 1) := by decide +kernel
theorem d_M_isCreature_9 : decode b_M_isCreature 9 = .ok (.ifCond .eq 7, 3) := by decide +kernel
theorem d_M_isCreature_12 : decode b_M_isCreature 12 = .ok (.iconst 1, 1) := by decide +kernel
theorem d_M_isCreature_13 : decode b_M_isCreature 13 = .ok (.goto 4, 3) := by decide +kernel
theorem d_M_isCreature_16 : decode b_M_isCreature 16 = .ok (.iconst 0, 1) := by decide +kernel
theorem d_M_isCreature_17 : decode b_M_isCreature 17 = .ok (.ireturn, 1) := by decide +kernel
theorem d_M_stands_0 : decode b_M_stands 0 = .ok (.iload_n 1, 1) := by decide +kernel
theorem d_M_stands_1 : decode b_M_stands 1 = .ok (.aload_n 0, 1) := by decide +kernel
theorem d_M_stands_2 : decode b_M_stands 2 = .ok (.getfield 167, 3) := by decide +kernel
theorem d_M_stands_5 : decode b_M_stands 5 = .ok (.if_icmp .ge 17, 3) := by decide +kernel
theorem d_M_stands_8 : decode b_M_stands 8 = .ok (.aload_n 0, 1) := by decide +kernel
theorem d_M_stands_9 : decode b_M_stands 9 = .ok (.getfield 56, 3) := by decide +kernel
theorem d_M_stands_12 : decode b_M_stands 12 = .ok (.iload_n 1, 1) := by decide +kernel
theorem d_M_stands_13 : decode b_M_stands 13 = .ok (.iaload, 1) := by decide +kernel
theorem d_M_stands_14 : decode b_M_stands 14 = .ok (.iload_n 2, 1) := by decide +kernel
theorem d_M_stands_15 : decode b_M_stands 15 = .ok (.if_icmp .ne 7, 3) := by decide +kernel
theorem d_M_stands_18 : decode b_M_stands 18 = .ok (.iconst 1, 1) := by decide +kernel
theorem d_M_stands_19 : decode b_M_stands 19 = .ok (.goto 4, 3) := by decide +kernel
theorem d_M_stands_22 : decode b_M_stands 22 = .ok (.iconst 0, 1) := by decide +kernel
theorem d_M_stands_23 : decode b_M_stands 23 = .ok (.ireturn, 1) := by decide +kernel
theorem d_M_off_0 : decode b_M_off 0 = .ok (.iload_n 1, 1) := by decide +kernel
theorem d_M_off_1 : decode b_M_off 1 = .ok (.istore_n 2, 1) := by decide +kernel
theorem d_M_off_2 : decode b_M_off 2 = .ok (.iload_n 2, 1) := by decide +kernel
theorem d_M_off_3 : decode b_M_off 3 = .ok (.aload_n 0, 1) := by decide +kernel
theorem d_M_off_4 : decode b_M_off 4 = .ok (.getfield 157, 3) := by decide +kernel
theorem d_M_off_7 : decode b_M_off 7 = .ok (.if_icmp .ge 23, 3) := by decide +kernel
theorem d_M_off_10 : decode b_M_off 10 = .ok (.aload_n 0, 1) := by decide +kernel
theorem d_M_off_11 : decode b_M_off 11 = .ok (.getfield 53, 3) := by decide +kernel
theorem d_M_off_14 : decode b_M_off 14 = .ok (.iload_n 2, 1) := by decide +kernel
theorem d_M_off_15 : decode b_M_off 15 = .ok (.iload_n 1, 1) := by decide +kernel
theorem d_M_off_16 : decode b_M_off 16 = .ok (.isub, 1) := by decide +kernel
theorem d_M_off_17 : decode b_M_off 17 = .ok (.aload_n 0, 1) := by decide +kernel
theorem d_M_off_18 : decode b_M_off 18 = .ok (.getfield 53, 3) := by decide +kernel
theorem d_M_off_21 : decode b_M_off 21 = .ok (.iload_n 2, 1) := by decide +kernel
theorem d_M_off_22 : decode b_M_off 22 = .ok (.iaload, 1) := by decide +kernel
theorem d_M_off_23 : decode b_M_off 23 = .ok (.iastore, 1) := by decide +kernel
theorem d_M_off_24 : decode b_M_off 24 = .ok (.iinc 2 1, 3) := by decide +kernel
theorem d_M_off_27 : decode b_M_off 27 = .ok (.goto (-25), 3) := by decide +kernel
theorem d_M_off_30 : decode b_M_off 30 = .ok (.aload_n 0, 1) := by decide +kernel
theorem d_M_off_31 : decode b_M_off 31 = .ok (.dup, 1) := by decide +kernel
theorem d_M_off_32 : decode b_M_off 32 = .ok (.getfield 157, 3) := by decide +kernel
theorem d_M_off_35 : decode b_M_off 35 = .ok (.iload_n 1, 1) := by decide +kernel
theorem d_M_off_36 : decode b_M_off 36 = .ok (.isub, 1) := by decide +kernel
theorem d_M_off_37 : decode b_M_off 37 = .ok (.putfield 157, 3) := by decide +kernel
theorem d_M_off_40 : decode b_M_off 40 = .ok (.return_, 1) := by decide +kernel
theorem d_M_order_0 : decode b_M_order 0 = .ok (.aload_n 0, 1) := by decide +kernel
theorem d_M_order_1 : decode b_M_order 1 = .ok (.aload_n 0, 1) := by decide +kernel
theorem d_M_order_2 : decode b_M_order 2 = .ok (.getfield 53, 3) := by decide +kernel
theorem d_M_order_5 : decode b_M_order 5 = .ok (.aload_n 0, 1) := by decide +kernel
theorem d_M_order_6 : decode b_M_order 6 = .ok (.getfield 157, 3) := by decide +kernel
theorem d_M_order_9 : decode b_M_order 9 = .ok (.invokevirtual 275, 3) := by decide +kernel
theorem d_M_order_12 : decode b_M_order 12 = .ok (.aload_n 0, 1) := by decide +kernel
theorem d_M_order_13 : decode b_M_order 13 = .ok (.iconst 0, 1) := by decide +kernel
theorem d_M_order_14 : decode b_M_order 14 = .ok (.invokevirtual 229, 3) := by decide +kernel
theorem d_M_order_17 : decode b_M_order 17 = .ok (.istore_n 1, 1) := by decide +kernel
theorem d_M_order_18 : decode b_M_order 18 = .ok (.aload_n 0, 1) := by decide +kernel
theorem d_M_order_19 : decode b_M_order 19 = .ok (.iconst (-1), 1) := by decide +kernel
theorem d_M_order_20 : decode b_M_order 20 = .ok (.putfield 103, 3) := by decide +kernel
theorem d_M_order_23 : decode b_M_order 23 = .ok (.iload_n 1, 1) := by decide +kernel
theorem d_M_order_24 : decode b_M_order 24 = .ok (.ifCond .le 71, 3) := by decide +kernel
theorem d_M_order_27 : decode b_M_order 27 = .ok (.aload_n 0, 1) := by decide +kernel
theorem d_M_order_28 : decode b_M_order 28 = .ok (.aload_n 0, 1) := by decide +kernel
theorem d_M_order_29 : decode b_M_order 29 = .ok (.getfield 170, 3) := by decide +kernel
theorem d_M_order_32 : decode b_M_order 32 = .ok (.invokevirtual 238, 3) := by decide +kernel
theorem d_M_order_35 : decode b_M_order 35 = .ok (.iconst 1, 1) := by decide +kernel
theorem d_M_order_36 : decode b_M_order 36 = .ok (.if_icmp .ne 59, 3) := by decide +kernel
theorem d_M_order_39 : decode b_M_order 39 = .ok (.aload_n 0, 1) := by decide +kernel
theorem d_M_order_40 : decode b_M_order 40 = .ok (.aload_n 0, 1) := by decide +kernel
theorem d_M_order_41 : decode b_M_order 41 = .ok (.aload_n 0, 1) := by decide +kernel
theorem d_M_order_42 : decode b_M_order 42 = .ok (.getfield 170, 3) := by decide +kernel
theorem d_M_order_45 : decode b_M_order 45 = .ok (.iconst 0, 1) := by decide +kernel
theorem d_M_order_46 : decode b_M_order 46 = .ok (.invokevirtual 262, 3) := by decide +kernel
theorem d_M_order_49 : decode b_M_order 49 = .ok (.invokevirtual 235, 3) := by decide +kernel
theorem d_M_order_52 : decode b_M_order 52 = .ok (.ifCond .eq 43, 3) := by decide +kernel
theorem d_M_order_55 : decode b_M_order 55 = .ok (.aload_n 0, 1) := by decide +kernel
theorem d_M_order_56 : decode b_M_order 56 = .ok (.iload_n 1, 1) := by decide +kernel
theorem d_M_order_57 : decode b_M_order 57 = .ok (.bipush 7, 2) := by decide +kernel
theorem d_M_order_59 : decode b_M_order 59 = .ok (.invokevirtual 177, 3) := by decide +kernel
theorem d_M_order_62 : decode b_M_order 62 = .ok (.ifCond .eq 33, 3) := by decide +kernel
theorem d_M_order_65 : decode b_M_order 65 = .ok (.iload_n 1, 1) := by decide +kernel
theorem d_M_order_66 : decode b_M_order 66 = .ok (.iconst 1, 1) := by decide +kernel
theorem d_M_order_67 : decode b_M_order 67 = .ok (.iadd, 1) := by decide +kernel
theorem d_M_order_68 : decode b_M_order 68 = .ok (.aload_n 0, 1) := by decide +kernel
theorem d_M_order_69 : decode b_M_order 69 = .ok (.getfield 157, 3) := by decide +kernel
theorem d_M_order_72 : decode b_M_order 72 = .ok (.if_icmp .ge 23, 3) := by decide +kernel
theorem d_M_order_75 : decode b_M_order 75 = .ok (.aload_n 0, 1) := by decide +kernel
theorem d_M_order_76 : decode b_M_order 76 = .ok (.aload_n 0, 1) := by decide +kernel
theorem d_M_order_77 : decode b_M_order 77 = .ok (.aload_n 0, 1) := by decide +kernel
theorem d_M_order_78 : decode b_M_order 78 = .ok (.getfield 170, 3) := by decide +kernel
theorem d_M_order_81 : decode b_M_order 81 = .ok (.iconst 0, 1) := by decide +kernel
theorem d_M_order_82 : decode b_M_order 82 = .ok (.invokevirtual 262, 3) := by decide +kernel
theorem d_M_order_85 : decode b_M_order 85 = .ok (.putfield 103, 3) := by decide +kernel
theorem d_M_order_88 : decode b_M_order 88 = .ok (.aload_n 0, 1) := by decide +kernel
theorem d_M_order_89 : decode b_M_order 89 = .ok (.iload_n 1, 1) := by decide +kernel
theorem d_M_order_90 : decode b_M_order 90 = .ok (.iconst 1, 1) := by decide +kernel
theorem d_M_order_91 : decode b_M_order 91 = .ok (.iadd, 1) := by decide +kernel
theorem d_M_order_92 : decode b_M_order 92 = .ok (.invokevirtual 299, 3) := by decide +kernel
theorem d_M_order_95 : decode b_M_order 95 = .ok (.return_, 1) := by decide +kernel
theorem d_M_begins_0 : decode b_M_begins 0 = .ok (.aload_n 0, 1) := by decide +kernel
theorem d_M_begins_1 : decode b_M_begins 1 = .ok (.iconst 1, 1) := by decide +kernel
theorem d_M_begins_2 : decode b_M_begins 2 = .ok (.putfield 296, 3) := by decide +kernel
theorem d_M_begins_5 : decode b_M_begins 5 = .ok (.aload_n 0, 1) := by decide +kernel
theorem d_M_begins_6 : decode b_M_begins 6 = .ok (.iconst 0, 1) := by decide +kernel
theorem d_M_begins_7 : decode b_M_begins 7 = .ok (.putfield 293, 3) := by decide +kernel
theorem d_M_begins_10 : decode b_M_begins 10 = .ok (.aload_n 0, 1) := by decide +kernel
theorem d_M_begins_11 : decode b_M_begins 11 = .ok (.iconst 0, 1) := by decide +kernel
theorem d_M_begins_12 : decode b_M_begins 12 = .ok (.putfield 286, 3) := by decide +kernel
theorem d_M_begins_15 : decode b_M_begins 15 = .ok (.return_, 1) := by decide +kernel
theorem d_M_fails_0 : decode b_M_fails 0 = .ok (.aload_n 0, 1) := by decide +kernel
theorem d_M_fails_1 : decode b_M_fails 1 = .ok (.iload_n 1, 1) := by decide +kernel
theorem d_M_fails_2 : decode b_M_fails 2 = .ok (.putfield 180, 3) := by decide +kernel
theorem d_M_fails_5 : decode b_M_fails 5 = .ok (.aload_n 0, 1) := by decide +kernel
theorem d_M_fails_6 : decode b_M_fails 6 = .ok (.iload_n 2, 1) := by decide +kernel
theorem d_M_fails_7 : decode b_M_fails 7 = .ok (.putfield 183, 3) := by decide +kernel
theorem d_M_fails_10 : decode b_M_fails 10 = .ok (.return_, 1) := by decide +kernel
theorem d_M_others_0 : decode b_M_others 0 = .ok (.iconst 0, 1) := by decide +kernel
theorem d_M_others_1 : decode b_M_others 1 = .ok (.istore_n 1, 1) := by decide +kernel
theorem d_M_others_2 : decode b_M_others 2 = .ok (.iload_n 1, 1) := by decide +kernel
theorem d_M_others_3 : decode b_M_others 3 = .ok (.aload_n 0, 1) := by decide +kernel
theorem d_M_others_4 : decode b_M_others 4 = .ok (.getfield 186, 3) := by decide +kernel
theorem d_M_others_7 : decode b_M_others 7 = .ok (.if_icmp .ge 91, 3) := by decide +kernel
theorem d_M_others_10 : decode b_M_others 10 = .ok (.aload_n 0, 1) := by decide +kernel
theorem d_M_others_11 : decode b_M_others 11 = .ok (.getfield 180, 3) := by decide +kernel
theorem d_M_others_14 : decode b_M_others 14 = .ok (.ifCond .ne 84, 3) := by decide +kernel
theorem d_M_others_17 : decode b_M_others 17 = .ok (.aload_n 0, 1) := by decide +kernel
theorem d_M_others_18 : decode b_M_others 18 = .ok (.getfield 65, 3) := by decide +kernel
theorem d_M_others_21 : decode b_M_others 21 = .ok (.iload_n 1, 1) := by decide +kernel
theorem d_M_others_22 : decode b_M_others 22 = .ok (.iaload, 1) := by decide +kernel
theorem d_M_others_23 : decode b_M_others 23 = .ok (.bipush 8, 2) := by decide +kernel
theorem d_M_others_25 : decode b_M_others 25 = .ok (.if_icmp .ne 67, 3) := by decide +kernel
theorem d_M_others_28 : decode b_M_others 28 = .ok (.aload_n 0, 1) := by decide +kernel
theorem d_M_others_29 : decode b_M_others 29 = .ok (.getfield 186, 3) := by decide +kernel
theorem d_M_others_32 : decode b_M_others 32 = .ok (.iconst 2, 1) := by decide +kernel
theorem d_M_others_33 : decode b_M_others 33 = .ok (.if_icmp .ne 59, 3) := by decide +kernel
theorem d_M_others_36 : decode b_M_others 36 = .ok (.aload_n 0, 1) := by decide +kernel
theorem d_M_others_37 : decode b_M_others 37 = .ok (.getfield 65, 3) := by decide +kernel
theorem d_M_others_40 : decode b_M_others 40 = .ok (.iconst 1, 1) := by decide +kernel
theorem d_M_others_41 : decode b_M_others 41 = .ok (.iload_n 1, 1) := by decide +kernel
theorem d_M_others_42 : decode b_M_others 42 = .ok (.isub, 1) := by decide +kernel
theorem d_M_others_43 : decode b_M_others 43 = .ok (.iaload, 1) := by decide +kernel
theorem d_M_others_44 : decode b_M_others 44 = .ok (.iconst 5, 1) := by decide +kernel
theorem d_M_others_45 : decode b_M_others 45 = .ok (.if_icmp .gt 47, 3) := by decide +kernel
theorem d_M_others_48 : decode b_M_others 48 = .ok (.aload_n 0, 1) := by decide +kernel
theorem d_M_others_49 : decode b_M_others 49 = .ok (.getfield 71, 3) := by decide +kernel
theorem d_M_others_52 : decode b_M_others 52 = .ok (.iload_n 1, 1) := by decide +kernel
theorem d_M_others_53 : decode b_M_others 53 = .ok (.dup2, 1) := by decide +kernel
theorem d_M_others_54 : decode b_M_others 54 = .ok (.laload, 1) := by decide +kernel
theorem d_M_others_55 : decode b_M_others 55 = .ok (.aload_n 0, 1) := by decide +kernel
theorem d_M_others_56 : decode b_M_others 56 = .ok (.getfield 71, 3) := by decide +kernel
theorem d_M_others_59 : decode b_M_others 59 = .ok (.iconst 1, 1) := by decide +kernel
theorem d_M_others_60 : decode b_M_others 60 = .ok (.iload_n 1, 1) := by decide +kernel
theorem d_M_others_61 : decode b_M_others 61 = .ok (.isub, 1) := by decide +kernel
theorem d_M_others_62 : decode b_M_others 62 = .ok (.laload, 1) := by decide +kernel
theorem d_M_others_63 : decode b_M_others 63 = .ok (.ldc2_w 248, 3) := by decide +kernel
theorem d_M_others_66 : decode b_M_others 66 = .ok (.lxor, 1) := by decide +kernel
theorem d_M_others_67 : decode b_M_others 67 = .ok (.land, 1) := by decide +kernel
theorem d_M_others_68 : decode b_M_others 68 = .ok (.lastore, 1) := by decide +kernel
theorem d_M_others_69 : decode b_M_others 69 = .ok (.aload_n 0, 1) := by decide +kernel
theorem d_M_others_70 : decode b_M_others 70 = .ok (.getfield 71, 3) := by decide +kernel
theorem d_M_others_73 : decode b_M_others 73 = .ok (.iload_n 1, 1) := by decide +kernel
theorem d_M_others_74 : decode b_M_others 74 = .ok (.laload, 1) := by decide +kernel
theorem d_M_others_75 : decode b_M_others 75 = .ok (.lconst 0, 1) := by decide +kernel
theorem d_M_others_76 : decode b_M_others 76 = .ok (.lcmp, 1) := by decide +kernel
theorem d_M_others_77 : decode b_M_others 77 = .ok (.ifCond .ne 15, 3) := by decide +kernel
theorem d_M_others_80 : decode b_M_others 80 = .ok (.aload_n 0, 1) := by decide +kernel
theorem d_M_others_81 : decode b_M_others 81 = .ok (.bipush 14, 2) := by decide +kernel
theorem d_M_others_83 : decode b_M_others 83 = .ok (.aload_n 0, 1) := by decide +kernel
theorem d_M_others_84 : decode b_M_others 84 = .ok (.getfield 68, 3) := by decide +kernel
theorem d_M_others_87 : decode b_M_others 87 = .ok (.iload_n 1, 1) := by decide +kernel
theorem d_M_others_88 : decode b_M_others 88 = .ok (.iaload, 1) := by decide +kernel
theorem d_M_others_89 : decode b_M_others 89 = .ok (.invokevirtual 205, 3) := by decide +kernel
theorem d_M_others_92 : decode b_M_others 92 = .ok (.iinc 1 1, 3) := by decide +kernel
theorem d_M_others_95 : decode b_M_others 95 = .ok (.goto (-93), 3) := by decide +kernel
theorem d_M_others_98 : decode b_M_others 98 = .ok (.return_, 1) := by decide +kernel
theorem d_M_slot_0 : decode b_M_slot 0 = .ok (.aload_n 0, 1) := by decide +kernel
theorem d_M_slot_1 : decode b_M_slot 1 = .ok (.getfield 65, 3) := by decide +kernel
theorem d_M_slot_4 : decode b_M_slot 4 = .ok (.aload_n 0, 1) := by decide +kernel
theorem d_M_slot_5 : decode b_M_slot 5 = .ok (.getfield 186, 3) := by decide +kernel
theorem d_M_slot_8 : decode b_M_slot 8 = .ok (.iload_n 1, 1) := by decide +kernel
theorem d_M_slot_9 : decode b_M_slot 9 = .ok (.iastore, 1) := by decide +kernel
theorem d_M_slot_10 : decode b_M_slot 10 = .ok (.aload_n 0, 1) := by decide +kernel
theorem d_M_slot_11 : decode b_M_slot 11 = .ok (.getfield 68, 3) := by decide +kernel
theorem d_M_slot_14 : decode b_M_slot 14 = .ok (.aload_n 0, 1) := by decide +kernel
theorem d_M_slot_15 : decode b_M_slot 15 = .ok (.getfield 186, 3) := by decide +kernel
theorem d_M_slot_18 : decode b_M_slot 18 = .ok (.iload_n 2, 1) := by decide +kernel
theorem d_M_slot_19 : decode b_M_slot 19 = .ok (.iastore, 1) := by decide +kernel
theorem d_M_slot_20 : decode b_M_slot 20 = .ok (.aload_n 0, 1) := by decide +kernel
theorem d_M_slot_21 : decode b_M_slot 21 = .ok (.getfield 71, 3) := by decide +kernel
theorem d_M_slot_24 : decode b_M_slot 24 = .ok (.aload_n 0, 1) := by decide +kernel
theorem d_M_slot_25 : decode b_M_slot 25 = .ok (.getfield 186, 3) := by decide +kernel
theorem d_M_slot_28 : decode b_M_slot 28 = .ok (.lconst 0, 1) := by decide +kernel
theorem d_M_slot_29 : decode b_M_slot 29 = .ok (.lastore, 1) := by decide +kernel
theorem d_M_slot_30 : decode b_M_slot 30 = .ok (.aload_n 0, 1) := by decide +kernel
theorem d_M_slot_31 : decode b_M_slot 31 = .ok (.dup, 1) := by decide +kernel
theorem d_M_slot_32 : decode b_M_slot 32 = .ok (.getfield 186, 3) := by decide +kernel
theorem d_M_slot_35 : decode b_M_slot 35 = .ok (.iconst 1, 1) := by decide +kernel
theorem d_M_slot_36 : decode b_M_slot 36 = .ok (.iadd, 1) := by decide +kernel
theorem d_M_slot_37 : decode b_M_slot 37 = .ok (.putfield 186, 3) := by decide +kernel
theorem d_M_slot_40 : decode b_M_slot 40 = .ok (.return_, 1) := by decide +kernel
theorem d_M_next_0 : decode b_M_next 0 = .ok (.iload_n 2, 1) := by decide +kernel
theorem d_M_next_1 : decode b_M_next 1 = .ok (.iconst 1, 1) := by decide +kernel
theorem d_M_next_2 : decode b_M_next 2 = .ok (.iadd, 1) := by decide +kernel
theorem d_M_next_3 : decode b_M_next 3 = .ok (.istore_n 3, 1) := by decide +kernel
theorem d_M_next_4 : decode b_M_next 4 = .ok (.iload_n 3, 1) := by decide +kernel
theorem d_M_next_5 : decode b_M_next 5 = .ok (.aload_n 0, 1) := by decide +kernel
theorem d_M_next_6 : decode b_M_next 6 = .ok (.getfield 26, 3) := by decide +kernel
theorem d_M_next_9 : decode b_M_next 9 = .ok (.iload_n 1, 1) := by decide +kernel
theorem d_M_next_10 : decode b_M_next 10 = .ok (.iaload, 1) := by decide +kernel
theorem d_M_next_11 : decode b_M_next 11 = .ok (.if_icmp .ge 24, 3) := by decide +kernel
theorem d_M_next_14 : decode b_M_next 14 = .ok (.aload_n 0, 1) := by decide +kernel
theorem d_M_next_15 : decode b_M_next 15 = .ok (.getfield 29, 3) := by decide +kernel
theorem d_M_next_18 : decode b_M_next 18 = .ok (.bipush 8, 2) := by decide +kernel
theorem d_M_next_20 : decode b_M_next 20 = .ok (.iload_n 1, 1) := by decide +kernel
theorem d_M_next_21 : decode b_M_next 21 = .ok (.imul, 1) := by decide +kernel
theorem d_M_next_22 : decode b_M_next 22 = .ok (.iload_n 3, 1) := by decide +kernel
theorem d_M_next_23 : decode b_M_next 23 = .ok (.iadd, 1) := by decide +kernel
theorem d_M_next_24 : decode b_M_next 24 = .ok (.iaload, 1) := by decide +kernel
theorem d_M_next_25 : decode b_M_next 25 = .ok (.iconst 1, 1) := by decide +kernel
theorem d_M_next_26 : decode b_M_next 26 = .ok (.if_icmp .ne 9, 3) := by decide +kernel
theorem d_M_next_29 : decode b_M_next 29 = .ok (.iinc 3 1, 3) := by decide +kernel
theorem d_M_next_32 : decode b_M_next 32 = .ok (.goto (-28), 3) := by decide +kernel
theorem d_M_next_35 : decode b_M_next 35 = .ok (.iload_n 3, 1) := by decide +kernel
theorem d_M_next_36 : decode b_M_next 36 = .ok (.ireturn, 1) := by decide +kernel
theorem d_M_isOneOf_0 : decode b_M_isOneOf 0 = .ok (.iconst 0, 1) := by decide +kernel
theorem d_M_isOneOf_1 : decode b_M_isOneOf 1 = .ok (.istore 4, 2) := by decide +kernel
theorem d_M_isOneOf_3 : decode b_M_isOneOf 3 = .ok (.iload_n 2, 1) := by decide +kernel
theorem d_M_isOneOf_4 : decode b_M_isOneOf 4 = .ok (.istore 5, 2) := by decide +kernel
theorem d_M_isOneOf_6 : decode b_M_isOneOf 6 = .ok (.iload 5, 2) := by decide +kernel
theorem d_M_isOneOf_8 : decode b_M_isOneOf 8 = .ok (.aload_n 0, 1) := by decide +kernel
theorem d_M_isOneOf_9 : decode b_M_isOneOf 9 = .ok (.iload_n 1, 1) := by decide +kernel
theorem d_M_isOneOf_10 : decode b_M_isOneOf 10 = .ok (.iload_n 2, 1) := by decide +kernel
theorem d_M_isOneOf_11 : decode b_M_isOneOf 11 = .ok (.invokevirtual 189, 3) := by decide +kernel
theorem d_M_isOneOf_14 : decode b_M_isOneOf 14 = .ok (.if_icmp .ge 37, 3) := by decide +kernel
theorem d_M_isOneOf_17 : decode b_M_isOneOf 17 = .ok (.iload 4, 2) := by decide +kernel
theorem d_M_isOneOf_19 : decode b_M_isOneOf 19 = .ok (.ifCond .ne 19, 3) := by decide +kernel
theorem d_M_isOneOf_22 : decode b_M_isOneOf 22 = .ok (.aload_n 0, 1) := by decide +kernel
theorem d_M_isOneOf_23 : decode b_M_isOneOf 23 = .ok (.getfield 32, 3) := by decide +kernel
theorem d_M_isOneOf_26 : decode b_M_isOneOf 26 = .ok (.bipush 8, 2) := by decide +kernel
theorem d_M_isOneOf_28 : decode b_M_isOneOf 28 = .ok (.iload_n 1, 1) := by decide +kernel
theorem d_M_isOneOf_29 : decode b_M_isOneOf 29 = .ok (.imul, 1) := by decide +kernel
theorem d_M_isOneOf_30 : decode b_M_isOneOf 30 = .ok (.iload 5, 2) := by decide +kernel
theorem d_M_isOneOf_32 : decode b_M_isOneOf 32 = .ok (.iadd, 1) := by decide +kernel
theorem d_M_isOneOf_33 : decode b_M_isOneOf 33 = .ok (.iaload, 1) := by decide +kernel
theorem d_M_isOneOf_34 : decode b_M_isOneOf 34 = .ok (.iload_n 3, 1) := by decide +kernel
theorem d_M_isOneOf_35 : decode b_M_isOneOf 35 = .ok (.if_icmp .ne 7, 3) := by decide +kernel
theorem d_M_isOneOf_38 : decode b_M_isOneOf 38 = .ok (.iconst 1, 1) := by decide +kernel
theorem d_M_isOneOf_39 : decode b_M_isOneOf 39 = .ok (.goto 4, 3) := by decide +kernel
theorem d_M_isOneOf_42 : decode b_M_isOneOf 42 = .ok (.iconst 0, 1) := by decide +kernel
theorem d_M_isOneOf_43 : decode b_M_isOneOf 43 = .ok (.istore 4, 2) := by decide +kernel
theorem d_M_isOneOf_45 : decode b_M_isOneOf 45 = .ok (.iinc 5 1, 3) := by decide +kernel
theorem d_M_isOneOf_48 : decode b_M_isOneOf 48 = .ok (.goto (-42), 3) := by decide +kernel
theorem d_M_isOneOf_51 : decode b_M_isOneOf 51 = .ok (.iload 4, 2) := by decide +kernel
theorem d_M_isOneOf_53 : decode b_M_isOneOf 53 = .ok (.ireturn, 1) := by decide +kernel
theorem d_M_takesTopic_0 : decode b_M_takesTopic 0 = .ok (.aload_n 0, 1) := by decide +kernel
theorem d_M_takesTopic_1 : decode b_M_takesTopic 1 = .ok (.iload_n 1, 1) := by decide +kernel
theorem d_M_takesTopic_2 : decode b_M_takesTopic 2 = .ok (.iload_n 2, 1) := by decide +kernel
theorem d_M_takesTopic_3 : decode b_M_takesTopic 3 = .ok (.invokevirtual 189, 3) := by decide +kernel
theorem d_M_takesTopic_6 : decode b_M_takesTopic 6 = .ok (.istore 4, 2) := by decide +kernel
theorem d_M_takesTopic_8 : decode b_M_takesTopic 8 = .ok (.iload_n 3, 1) := by decide +kernel
theorem d_M_takesTopic_9 : decode b_M_takesTopic 9 = .ok (.iconst 1, 1) := by decide +kernel
theorem d_M_takesTopic_10 : decode b_M_takesTopic 10 = .ok (.iadd, 1) := by decide +kernel
theorem d_M_takesTopic_11 : decode b_M_takesTopic 11 = .ok (.istore 5, 2) := by decide +kernel
theorem d_M_takesTopic_13 : decode b_M_takesTopic 13 = .ok (.iload 5, 2) := by decide +kernel
theorem d_M_takesTopic_15 : decode b_M_takesTopic 15 = .ok (.aload_n 0, 1) := by decide +kernel
theorem d_M_takesTopic_16 : decode b_M_takesTopic 16 = .ok (.getfield 167, 3) := by decide +kernel
theorem d_M_takesTopic_19 : decode b_M_takesTopic 19 = .ok (.if_icmp .ge 37, 3) := by decide +kernel
theorem d_M_takesTopic_22 : decode b_M_takesTopic 22 = .ok (.iload 4, 2) := by decide +kernel
theorem d_M_takesTopic_24 : decode b_M_takesTopic 24 = .ok (.aload_n 0, 1) := by decide +kernel
theorem d_M_takesTopic_25 : decode b_M_takesTopic 25 = .ok (.getfield 26, 3) := by decide +kernel
theorem d_M_takesTopic_28 : decode b_M_takesTopic 28 = .ok (.iload_n 1, 1) := by decide +kernel
theorem d_M_takesTopic_29 : decode b_M_takesTopic 29 = .ok (.iaload, 1) := by decide +kernel
theorem d_M_takesTopic_30 : decode b_M_takesTopic 30 = .ok (.if_icmp .ge 20, 3) := by decide +kernel
theorem d_M_takesTopic_33 : decode b_M_takesTopic 33 = .ok (.aload_n 0, 1) := by decide +kernel
theorem d_M_takesTopic_34 : decode b_M_takesTopic 34 = .ok (.iload_n 1, 1) := by decide +kernel
theorem d_M_takesTopic_35 : decode b_M_takesTopic 35 = .ok (.iload 4, 2) := by decide +kernel
theorem d_M_takesTopic_37 : decode b_M_takesTopic 37 = .ok (.aload_n 0, 1) := by decide +kernel
theorem d_M_takesTopic_38 : decode b_M_takesTopic 38 = .ok (.getfield 56, 3) := by decide +kernel
theorem d_M_takesTopic_41 : decode b_M_takesTopic 41 = .ok (.iload 5, 2) := by decide +kernel
theorem d_M_takesTopic_43 : decode b_M_takesTopic 43 = .ok (.iaload, 1) := by decide +kernel
theorem d_M_takesTopic_44 : decode b_M_takesTopic 44 = .ok (.invokevirtual 211, 3) := by decide +kernel
theorem d_M_takesTopic_47 : decode b_M_takesTopic 47 = .ok (.ifCond .ne 9, 3) := by decide +kernel
theorem d_M_takesTopic_50 : decode b_M_takesTopic 50 = .ok (.iinc 5 1, 3) := by decide +kernel
theorem d_M_takesTopic_53 : decode b_M_takesTopic 53 = .ok (.goto (-40), 3) := by decide +kernel
theorem d_M_takesTopic_56 : decode b_M_takesTopic 56 = .ok (.aload_n 0, 1) := by decide +kernel
theorem d_M_takesTopic_57 : decode b_M_takesTopic 57 = .ok (.getfield 75, 3) := by decide +kernel
theorem d_M_takesTopic_60 : decode b_M_takesTopic 60 = .ok (.aload_n 0, 1) := by decide +kernel
theorem d_M_takesTopic_61 : decode b_M_takesTopic 61 = .ok (.getfield 186, 3) := by decide +kernel
theorem d_M_takesTopic_64 : decode b_M_takesTopic 64 = .ok (.iconst 1, 1) := by decide +kernel
theorem d_M_takesTopic_65 : decode b_M_takesTopic 65 = .ok (.isub, 1) := by decide +kernel
theorem d_M_takesTopic_66 : decode b_M_takesTopic 66 = .ok (.iload_n 3, 1) := by decide +kernel
theorem d_M_takesTopic_67 : decode b_M_takesTopic 67 = .ok (.iastore, 1) := by decide +kernel
theorem d_M_takesTopic_68 : decode b_M_takesTopic 68 = .ok (.aload_n 0, 1) := by decide +kernel
theorem d_M_takesTopic_69 : decode b_M_takesTopic 69 = .ok (.getfield 78, 3) := by decide +kernel
theorem d_M_takesTopic_72 : decode b_M_takesTopic 72 = .ok (.aload_n 0, 1) := by decide +kernel
theorem d_M_takesTopic_73 : decode b_M_takesTopic 73 = .ok (.getfield 186, 3) := by decide +kernel
theorem d_M_takesTopic_76 : decode b_M_takesTopic 76 = .ok (.iconst 1, 1) := by decide +kernel
theorem d_M_takesTopic_77 : decode b_M_takesTopic 77 = .ok (.isub, 1) := by decide +kernel
theorem d_M_takesTopic_78 : decode b_M_takesTopic 78 = .ok (.iload 5, 2) := by decide +kernel
theorem d_M_takesTopic_80 : decode b_M_takesTopic 80 = .ok (.iastore, 1) := by decide +kernel
theorem d_M_takesTopic_81 : decode b_M_takesTopic 81 = .ok (.iload 5, 2) := by decide +kernel
theorem d_M_takesTopic_83 : decode b_M_takesTopic 83 = .ok (.ireturn, 1) := by decide +kernel
theorem d_M_isWorn_0 : decode b_M_isWorn 0 = .ok (.aload_n 0, 1) := by decide +kernel
theorem d_M_isWorn_1 : decode b_M_isWorn 1 = .ok (.getfield 35, 3) := by decide +kernel
theorem d_M_isWorn_4 : decode b_M_isWorn 4 = .ok (.iload_n 1, 1) := by decide +kernel
theorem d_M_isWorn_5 : decode b_M_isWorn 5 = .ok (.iaload, 1) := by decide +kernel
theorem d_M_isWorn_6 : decode b_M_isWorn 6 = .ok (.iconst 4, 1) := by decide +kernel
theorem d_M_isWorn_7 : decode b_M_isWorn 7 = .ok (.iand, 1) := by decide +kernel
theorem d_M_isWorn_8 : decode b_M_isWorn 8 = .ok (.ifCond .eq 7, 3) := by decide +kernel
theorem d_M_isWorn_11 : decode b_M_isWorn 11 = .ok (.iconst 1, 1) := by decide +kernel
theorem d_M_isWorn_12 : decode b_M_isWorn 12 = .ok (.goto 4, 3) := by decide +kernel
theorem d_M_isWorn_15 : decode b_M_isWorn 15 = .ok (.iconst 0, 1) := by decide +kernel
theorem d_M_isWorn_16 : decode b_M_isWorn 16 = .ok (.ireturn, 1) := by decide +kernel
theorem d_M_takesOne_0 : decode b_M_takesOne 0 = .ok (.aload_n 0, 1) := by decide +kernel
theorem d_M_takesOne_1 : decode b_M_takesOne 1 = .ok (.iload_n 2, 1) := by decide +kernel
theorem d_M_takesOne_2 : decode b_M_takesOne 2 = .ok (.iconst 4, 1) := by decide +kernel
theorem d_M_takesOne_3 : decode b_M_takesOne 3 = .ok (.invokevirtual 177, 3) := by decide +kernel
theorem d_M_takesOne_6 : decode b_M_takesOne 6 = .ok (.ifCond .eq 12, 3) := by decide +kernel
theorem d_M_takesOne_9 : decode b_M_takesOne 9 = .ok (.aload_n 0, 1) := by decide +kernel
theorem d_M_takesOne_10 : decode b_M_takesOne 10 = .ok (.bipush 13, 2) := by decide +kernel
theorem d_M_takesOne_12 : decode b_M_takesOne 12 = .ok (.iload_n 2, 1) := by decide +kernel
theorem d_M_takesOne_13 : decode b_M_takesOne 13 = .ok (.invokevirtual 205, 3) := by decide +kernel
theorem d_M_takesOne_16 : decode b_M_takesOne 16 = .ok (.iload_n 2, 1) := by decide +kernel
theorem d_M_takesOne_17 : decode b_M_takesOne 17 = .ok (.ireturn, 1) := by decide +kernel
theorem d_M_takesOne_18 : decode b_M_takesOne 18 = .ok (.aload_n 0, 1) := by decide +kernel
theorem d_M_takesOne_19 : decode b_M_takesOne 19 = .ok (.iload_n 2, 1) := by decide +kernel
theorem d_M_takesOne_20 : decode b_M_takesOne 20 = .ok (.invokevirtual 229, 3) := by decide +kernel
theorem d_M_takesOne_23 : decode b_M_takesOne 23 = .ok (.istore_n 3, 1) := by decide +kernel
theorem d_M_takesOne_24 : decode b_M_takesOne 24 = .ok (.iload_n 3, 1) := by decide +kernel
theorem d_M_takesOne_25 : decode b_M_takesOne 25 = .ok (.ifCond .ne 12, 3) := by decide +kernel
theorem d_M_takesOne_28 : decode b_M_takesOne 28 = .ok (.aload_n 0, 1) := by decide +kernel
theorem d_M_takesOne_29 : decode b_M_takesOne 29 = .ok (.bipush 7, 2) := by decide +kernel
theorem d_M_takesOne_31 : decode b_M_takesOne 31 = .ok (.iload_n 2, 1) := by decide +kernel
theorem d_M_takesOne_32 : decode b_M_takesOne 32 = .ok (.invokevirtual 205, 3) := by decide +kernel
theorem d_M_takesOne_35 : decode b_M_takesOne 35 = .ok (.iload_n 2, 1) := by decide +kernel
theorem d_M_takesOne_36 : decode b_M_takesOne 36 = .ok (.ireturn, 1) := by decide +kernel
theorem d_M_takesOne_37 : decode b_M_takesOne 37 = .ok (.lconst 0, 1) := by decide +kernel
theorem d_M_takesOne_38 : decode b_M_takesOne 38 = .ok (.lstore 4, 2) := by decide +kernel
theorem d_M_takesOne_40 : decode b_M_takesOne 40 = .ok (.iconst 0, 1) := by decide +kernel
theorem d_M_takesOne_41 : decode b_M_takesOne 41 = .ok (.istore 6, 2) := by decide +kernel
theorem d_M_takesOne_43 : decode b_M_takesOne 43 = .ok (.iload 6, 2) := by decide +kernel
theorem d_M_takesOne_45 : decode b_M_takesOne 45 = .ok (.aload_n 0, 1) := by decide +kernel
theorem d_M_takesOne_46 : decode b_M_takesOne 46 = .ok (.getfield 140, 3) := by decide +kernel
theorem d_M_takesOne_49 : decode b_M_takesOne 49 = .ok (.if_icmp .ge 94, 3) := by decide +kernel
theorem d_M_takesOne_52 : decode b_M_takesOne 52 = .ok (.iload_n 1, 1) := by decide +kernel
theorem d_M_takesOne_53 : decode b_M_takesOne 53 = .ok (.iconst 2, 1) := by decide +kernel
theorem d_M_takesOne_54 : decode b_M_takesOne 54 = .ok (.if_icmp .eq 45, 3) := by decide +kernel
theorem d_M_takesOne_57 : decode b_M_takesOne 57 = .ok (.iload_n 1, 1) := by decide +kernel
theorem d_M_takesOne_58 : decode b_M_takesOne 58 = .ok (.iconst 3, 1) := by decide +kernel
theorem d_M_takesOne_59 : decode b_M_takesOne 59 = .ok (.if_icmp .ne 12, 3) := by decide +kernel
theorem d_M_takesOne_62 : decode b_M_takesOne 62 = .ok (.aload_n 0, 1) := by decide +kernel
theorem d_M_takesOne_63 : decode b_M_takesOne 63 = .ok (.iload 6, 2) := by decide +kernel
theorem d_M_takesOne_65 : decode b_M_takesOne 65 = .ok (.invokevirtual 160, 3) := by decide +kernel
theorem d_M_takesOne_68 : decode b_M_takesOne 68 = .ok (.ifCond .ne 31, 3) := by decide +kernel
theorem d_M_takesOne_71 : decode b_M_takesOne 71 = .ok (.iload_n 1, 1) := by decide +kernel
theorem d_M_takesOne_72 : decode b_M_takesOne 72 = .ok (.iconst 4, 1) := by decide +kernel
theorem d_M_takesOne_73 : decode b_M_takesOne 73 = .ok (.if_icmp .ne 12, 3) := by decide +kernel
theorem d_M_takesOne_76 : decode b_M_takesOne 76 = .ok (.aload_n 0, 1) := by decide +kernel
theorem d_M_takesOne_77 : decode b_M_takesOne 77 = .ok (.iload 6, 2) := by decide +kernel
theorem d_M_takesOne_79 : decode b_M_takesOne 79 = .ok (.invokevirtual 232, 3) := by decide +kernel
theorem d_M_takesOne_82 : decode b_M_takesOne 82 = .ok (.ifCond .ne 17, 3) := by decide +kernel
theorem d_M_takesOne_85 : decode b_M_takesOne 85 = .ok (.iload_n 1, 1) := by decide +kernel
theorem d_M_takesOne_86 : decode b_M_takesOne 86 = .ok (.iconst 5, 1) := by decide +kernel
theorem d_M_takesOne_87 : decode b_M_takesOne 87 = .ok (.if_icmp .ne 16, 3) := by decide +kernel
theorem d_M_takesOne_90 : decode b_M_takesOne 90 = .ok (.aload_n 0, 1) := by decide +kernel
theorem d_M_takesOne_91 : decode b_M_takesOne 91 = .ok (.iload 6, 2) := by decide +kernel
theorem d_M_takesOne_93 : decode b_M_takesOne 93 = .ok (.invokevirtual 235, 3) := by decide +kernel
theorem d_M_takesOne_96 : decode b_M_takesOne 96 = .ok (.ifCond .eq 7, 3) := by decide +kernel
theorem d_M_takesOne_99 : decode b_M_takesOne 99 = .ok (.iconst 1, 1) := by decide +kernel
theorem d_M_takesOne_100 : decode b_M_takesOne 100 = .ok (.goto 4, 3) := by decide +kernel
theorem d_M_takesOne_103 : decode b_M_takesOne 103 = .ok (.iconst 0, 1) := by decide +kernel
theorem d_M_takesOne_104 : decode b_M_takesOne 104 = .ok (.istore 7, 2) := by decide +kernel
theorem d_M_takesOne_106 : decode b_M_takesOne 106 = .ok (.iload 7, 2) := by decide +kernel
theorem d_M_takesOne_108 : decode b_M_takesOne 108 = .ok (.ifCond .eq 25, 3) := by decide +kernel
theorem d_M_takesOne_111 : decode b_M_takesOne 111 = .ok (.aload_n 0, 1) := by decide +kernel
theorem d_M_takesOne_112 : decode b_M_takesOne 112 = .ok (.getfield 170, 3) := by decide +kernel
theorem d_M_takesOne_115 : decode b_M_takesOne 115 = .ok (.iload 6, 2) := by decide +kernel
theorem d_M_takesOne_117 : decode b_M_takesOne 117 = .ok (.invokestatic 163, 3) := by decide +kernel
theorem d_M_takesOne_120 : decode b_M_takesOne 120 = .ok (.ifCond .eq 13, 3) := by decide +kernel
theorem d_M_takesOne_123 : decode b_M_takesOne 123 = .ok (.lload 4, 2) := by decide +kernel
theorem d_M_takesOne_125 : decode b_M_takesOne 125 = .ok (.lconst 1, 1) := by decide +kernel
theorem d_M_takesOne_126 : decode b_M_takesOne 126 = .ok (.iload 6, 2) := by decide +kernel
theorem d_M_takesOne_128 : decode b_M_takesOne 128 = .ok (.lshl, 1) := by decide +kernel
theorem d_M_takesOne_129 : decode b_M_takesOne 129 = .ok (.lor, 1) := by decide +kernel
theorem d_M_takesOne_130 : decode b_M_takesOne 130 = .ok (.goto 5, 3) := by decide +kernel
theorem d_M_takesOne_133 : decode b_M_takesOne 133 = .ok (.lload 4, 2) := by decide +kernel
theorem d_M_takesOne_135 : decode b_M_takesOne 135 = .ok (.lstore 4, 2) := by decide +kernel
theorem d_M_takesOne_137 : decode b_M_takesOne 137 = .ok (.iinc 6 1, 3) := by decide +kernel
theorem d_M_takesOne_140 : decode b_M_takesOne 140 = .ok (.goto (-97), 3) := by decide +kernel
theorem d_M_takesOne_143 : decode b_M_takesOne 143 = .ok (.aload_n 0, 1) := by decide +kernel
theorem d_M_takesOne_144 : decode b_M_takesOne 144 = .ok (.lload 4, 2) := by decide +kernel
theorem d_M_takesOne_146 : decode b_M_takesOne 146 = .ok (.invokevirtual 238, 3) := by decide +kernel
theorem d_M_takesOne_149 : decode b_M_takesOne 149 = .ok (.istore 6, 2) := by decide +kernel
theorem d_M_takesOne_151 : decode b_M_takesOne 151 = .ok (.iload 6, 2) := by decide +kernel
theorem d_M_takesOne_153 : decode b_M_takesOne 153 = .ok (.ifCond .ne 33, 3) := by decide +kernel
theorem d_M_takesOne_156 : decode b_M_takesOne 156 = .ok (.aload_n 0, 1) := by decide +kernel
theorem d_M_takesOne_157 : decode b_M_takesOne 157 = .ok (.iload_n 1, 1) := by decide +kernel
theorem d_M_takesOne_158 : decode b_M_takesOne 158 = .ok (.iconst 3, 1) := by decide +kernel
theorem d_M_takesOne_159 : decode b_M_takesOne 159 = .ok (.if_icmp .ne 8, 3) := by decide +kernel
theorem d_M_takesOne_162 : decode b_M_takesOne 162 = .ok (.bipush 11, 2) := by decide +kernel
theorem d_M_takesOne_164 : decode b_M_takesOne 164 = .ok (.goto 15, 3) := by decide +kernel
theorem d_M_takesOne_167 : decode b_M_takesOne 167 = .ok (.iload_n 1, 1) := by decide +kernel
theorem d_M_takesOne_168 : decode b_M_takesOne 168 = .ok (.iconst 4, 1) := by decide +kernel
theorem d_M_takesOne_169 : decode b_M_takesOne 169 = .ok (.if_icmp .ne 8, 3) := by decide +kernel
theorem d_M_takesOne_172 : decode b_M_takesOne 172 = .ok (.bipush 12, 2) := by decide +kernel
theorem d_M_takesOne_174 : decode b_M_takesOne 174 = .ok (.goto 5, 3) := by decide +kernel
theorem d_M_takesOne_177 : decode b_M_takesOne 177 = .ok (.bipush 10, 2) := by decide +kernel
theorem d_M_takesOne_179 : decode b_M_takesOne 179 = .ok (.iload_n 2, 1) := by decide +kernel
theorem d_M_takesOne_180 : decode b_M_takesOne 180 = .ok (.invokevirtual 205, 3) := by decide +kernel
theorem d_M_takesOne_183 : decode b_M_takesOne 183 = .ok (.goto 48, 3) := by decide +kernel
theorem d_M_takesOne_186 : decode b_M_takesOne 186 = .ok (.iload 6, 2) := by decide +kernel
theorem d_M_takesOne_188 : decode b_M_takesOne 188 = .ok (.iconst 1, 1) := by decide +kernel
theorem d_M_takesOne_189 : decode b_M_takesOne 189 = .ok (.if_icmp .le 26, 3) := by decide +kernel
theorem d_M_takesOne_192 : decode b_M_takesOne 192 = .ok (.aload_n 0, 1) := by decide +kernel
theorem d_M_takesOne_193 : decode b_M_takesOne 193 = .ok (.bipush 15, 2) := by decide +kernel
theorem d_M_takesOne_195 : decode b_M_takesOne 195 = .ok (.iload_n 2, 1) := by decide +kernel
theorem d_M_takesOne_196 : decode b_M_takesOne 196 = .ok (.invokevirtual 205, 3) := by decide +kernel
theorem d_M_takesOne_199 : decode b_M_takesOne 199 = .ok (.aload_n 0, 1) := by decide +kernel
theorem d_M_takesOne_200 : decode b_M_takesOne 200 = .ok (.lload 4, 2) := by decide +kernel
theorem d_M_takesOne_202 : decode b_M_takesOne 202 = .ok (.putfield 242, 3) := by decide +kernel
theorem d_M_takesOne_205 : decode b_M_takesOne 205 = .ok (.aload_n 0, 1) := by decide +kernel
theorem d_M_takesOne_206 : decode b_M_takesOne 206 = .ok (.iload_n 2, 1) := by decide +kernel
theorem d_M_takesOne_207 : decode b_M_takesOne 207 = .ok (.iload_n 3, 1) := by decide +kernel
theorem d_M_takesOne_208 : decode b_M_takesOne 208 = .ok (.iadd, 1) := by decide +kernel
theorem d_M_takesOne_209 : decode b_M_takesOne 209 = .ok (.putfield 245, 3) := by decide +kernel
theorem d_M_takesOne_212 : decode b_M_takesOne 212 = .ok (.goto 19, 3) := by decide +kernel
theorem d_M_takesOne_215 : decode b_M_takesOne 215 = .ok (.aload_n 0, 1) := by decide +kernel
theorem d_M_takesOne_216 : decode b_M_takesOne 216 = .ok (.getfield 71, 3) := by decide +kernel
theorem d_M_takesOne_219 : decode b_M_takesOne 219 = .ok (.aload_n 0, 1) := by decide +kernel
theorem d_M_takesOne_220 : decode b_M_takesOne 220 = .ok (.getfield 186, 3) := by decide +kernel
theorem d_M_takesOne_223 : decode b_M_takesOne 223 = .ok (.iconst 1, 1) := by decide +kernel
theorem d_M_takesOne_224 : decode b_M_takesOne 224 = .ok (.isub, 1) := by decide +kernel
theorem d_M_takesOne_225 : decode b_M_takesOne 225 = .ok (.dup2, 1) := by decide +kernel
theorem d_M_takesOne_226 : decode b_M_takesOne 226 = .ok (.laload, 1) := by decide +kernel
theorem d_M_takesOne_227 : decode b_M_takesOne 227 = .ok (.lload 4, 2) := by decide +kernel
theorem d_M_takesOne_229 : decode b_M_takesOne 229 = .ok (.lor, 1) := by decide +kernel
theorem d_M_takesOne_230 : decode b_M_takesOne 230 = .ok (.lastore, 1) := by decide +kernel
theorem d_M_takesOne_231 : decode b_M_takesOne 231 = .ok (.iload_n 2, 1) := by decide +kernel
theorem d_M_takesOne_232 : decode b_M_takesOne 232 = .ok (.iload_n 3, 1) := by decide +kernel
theorem d_M_takesOne_233 : decode b_M_takesOne 233 = .ok (.iadd, 1) := by decide +kernel
theorem d_M_takesOne_234 : decode b_M_takesOne 234 = .ok (.ireturn, 1) := by decide +kernel
theorem d_M_joins_0 : decode b_M_joins 0 = .ok (.aload_n 0, 1) := by decide +kernel
theorem d_M_joins_1 : decode b_M_joins 1 = .ok (.iload_n 1, 1) := by decide +kernel
theorem d_M_joins_2 : decode b_M_joins 2 = .ok (.iconst 1, 1) := by decide +kernel
theorem d_M_joins_3 : decode b_M_joins 3 = .ok (.invokevirtual 177, 3) := by decide +kernel
theorem d_M_joins_6 : decode b_M_joins 6 = .ok (.ifCond .ne 13, 3) := by decide +kernel
theorem d_M_joins_9 : decode b_M_joins 9 = .ok (.aload_n 0, 1) := by decide +kernel
theorem d_M_joins_10 : decode b_M_joins 10 = .ok (.iload_n 1, 1) := by decide +kernel
theorem d_M_joins_11 : decode b_M_joins 11 = .ok (.bipush 7, 2) := by decide +kernel
theorem d_M_joins_13 : decode b_M_joins 13 = .ok (.invokevirtual 177, 3) := by decide +kernel
theorem d_M_joins_16 : decode b_M_joins 16 = .ok (.ifCond .eq 7, 3) := by decide +kernel
theorem d_M_joins_19 : decode b_M_joins 19 = .ok (.iconst 1, 1) := by decide +kernel
theorem d_M_joins_20 : decode b_M_joins 20 = .ok (.goto 4, 3) := by decide +kernel
theorem d_M_joins_23 : decode b_M_joins 23 = .ok (.iconst 0, 1) := by decide +kernel
theorem d_M_joins_24 : decode b_M_joins 24 = .ok (.ireturn, 1) := by decide +kernel
theorem d_M_lacksOne_0 : decode b_M_lacksOne 0 = .ok (.aload_n 0, 1) := by decide +kernel
theorem d_M_lacksOne_1 : decode b_M_lacksOne 1 = .ok (.bipush 7, 2) := by decide +kernel
theorem d_M_lacksOne_3 : decode b_M_lacksOne 3 = .ok (.iload_n 1, 1) := by decide +kernel
theorem d_M_lacksOne_4 : decode b_M_lacksOne 4 = .ok (.invokevirtual 205, 3) := by decide +kernel
theorem d_M_lacksOne_7 : decode b_M_lacksOne 7 = .ok (.iload_n 1, 1) := by decide +kernel
theorem d_M_lacksOne_8 : decode b_M_lacksOne 8 = .ok (.ireturn, 1) := by decide +kernel
theorem d_M_takesSeveral_0 : decode b_M_takesSeveral 0 = .ok (.aload_n 0, 1) := by decide +kernel
theorem d_M_takesSeveral_1 : decode b_M_takesSeveral 1 = .ok (.getfield 186, 3) := by decide +kernel
theorem d_M_takesSeveral_4 : decode b_M_takesSeveral 4 = .ok (.iconst 1, 1) := by decide +kernel
theorem d_M_takesSeveral_5 : decode b_M_takesSeveral 5 = .ok (.isub, 1) := by decide +kernel
theorem d_M_takesSeveral_6 : decode b_M_takesSeveral 6 = .ok (.istore_n 3, 1) := by decide +kernel
theorem d_M_takesSeveral_7 : decode b_M_takesSeveral 7 = .ok (.iload_n 2, 1) := by decide +kernel
theorem d_M_takesSeveral_8 : decode b_M_takesSeveral 8 = .ok (.istore 4, 2) := by decide +kernel
theorem d_M_takesSeveral_10 : decode b_M_takesSeveral 10 = .ok (.aload_n 0, 1) := by decide +kernel
theorem d_M_takesSeveral_11 : decode b_M_takesSeveral 11 = .ok (.iload 4, 2) := by decide +kernel
theorem d_M_takesSeveral_13 : decode b_M_takesSeveral 13 = .ok (.iconst 4, 1) := by decide +kernel
theorem d_M_takesSeveral_14 : decode b_M_takesSeveral 14 = .ok (.invokevirtual 177, 3) := by decide +kernel
theorem d_M_takesSeveral_17 : decode b_M_takesSeveral 17 = .ok (.ifCond .eq 223, 3) := by decide +kernel
theorem d_M_takesSeveral_20 : decode b_M_takesSeveral 20 = .ok (.iconst 0, 1) := by decide +kernel
theorem d_M_takesSeveral_21 : decode b_M_takesSeveral 21 = .ok (.istore 5, 2) := by decide +kernel
theorem d_M_takesSeveral_23 : decode b_M_takesSeveral 23 = .ok (.iload 5, 2) := by decide +kernel
theorem d_M_takesSeveral_25 : decode b_M_takesSeveral 25 = .ok (.aload_n 0, 1) := by decide +kernel
theorem d_M_takesSeveral_26 : decode b_M_takesSeveral 26 = .ok (.getfield 140, 3) := by decide +kernel
theorem d_M_takesSeveral_29 : decode b_M_takesSeveral 29 = .ok (.if_icmp .ge 101, 3) := by decide +kernel
theorem d_M_takesSeveral_32 : decode b_M_takesSeveral 32 = .ok (.aload_n 0, 1) := by decide +kernel
theorem d_M_takesSeveral_33 : decode b_M_takesSeveral 33 = .ok (.iload 5, 2) := by decide +kernel
theorem d_M_takesSeveral_35 : decode b_M_takesSeveral 35 = .ok (.invokevirtual 174, 3) := by decide +kernel
theorem d_M_takesSeveral_38 : decode b_M_takesSeveral 38 = .ok (.ifCond .eq 52, 3) := by decide +kernel
theorem d_M_takesSeveral_41 : decode b_M_takesSeveral 41 = .ok (.aload_n 0, 1) := by decide +kernel
theorem d_M_takesSeveral_42 : decode b_M_takesSeveral 42 = .ok (.iload 5, 2) := by decide +kernel
theorem d_M_takesSeveral_44 : decode b_M_takesSeveral 44 = .ok (.invokevirtual 235, 3) := by decide +kernel
theorem d_M_takesSeveral_47 : decode b_M_takesSeveral 47 = .ok (.ifCond .ne 43, 3) := by decide +kernel
theorem d_M_takesSeveral_50 : decode b_M_takesSeveral 50 = .ok (.iload_n 1, 1) := by decide +kernel
theorem d_M_takesSeveral_51 : decode b_M_takesSeveral 51 = .ok (.bipush 6, 2) := by decide +kernel
theorem d_M_takesSeveral_53 : decode b_M_takesSeveral 53 = .ok (.if_icmp .ne 15, 3) := by decide +kernel
theorem d_M_takesSeveral_56 : decode b_M_takesSeveral 56 = .ok (.aload_n 0, 1) := by decide +kernel
theorem d_M_takesSeveral_57 : decode b_M_takesSeveral 57 = .ok (.iload 5, 2) := by decide +kernel
theorem d_M_takesSeveral_59 : decode b_M_takesSeveral 59 = .ok (.invokevirtual 160, 3) := by decide +kernel
theorem d_M_takesSeveral_62 : decode b_M_takesSeveral 62 = .ok (.ifCond .ne 28, 3) := by decide +kernel
theorem d_M_takesSeveral_65 : decode b_M_takesSeveral 65 = .ok (.goto 21, 3) := by decide +kernel
theorem d_M_takesSeveral_68 : decode b_M_takesSeveral 68 = .ok (.aload_n 0, 1) := by decide +kernel
theorem d_M_takesSeveral_69 : decode b_M_takesSeveral 69 = .ok (.iload 5, 2) := by decide +kernel
theorem d_M_takesSeveral_71 : decode b_M_takesSeveral 71 = .ok (.invokevirtual 160, 3) := by decide +kernel
theorem d_M_takesSeveral_74 : decode b_M_takesSeveral 74 = .ok (.ifCond .eq 16, 3) := by decide +kernel
theorem d_M_takesSeveral_77 : decode b_M_takesSeveral 77 = .ok (.aload_n 0, 1) := by decide +kernel
theorem d_M_takesSeveral_78 : decode b_M_takesSeveral 78 = .ok (.iload 5, 2) := by decide +kernel
theorem d_M_takesSeveral_80 : decode b_M_takesSeveral 80 = .ok (.invokevirtual 232, 3) := by decide +kernel
theorem d_M_takesSeveral_83 : decode b_M_takesSeveral 83 = .ok (.ifCond .ne 7, 3) := by decide +kernel
end
section
theorem d_M_takesSeveral_86 : decode b_M_takesSeveral 86 = .ok (.iconst 1, 1) := by decide +kernel
theorem d_M_takesSeveral_87 : decode b_M_takesSeveral 87 = .ok (.goto 4, 3) := by decide +kernel
theorem d_M_takesSeveral_90 : decode b_M_takesSeveral 90 = .ok (.iconst 0, 1) := by decide +kernel
theorem d_M_takesSeveral_91 : decode b_M_takesSeveral 91 = .ok (.istore 6, 2) := by decide +kernel
theorem d_M_takesSeveral_93 : decode b_M_takesSeveral 93 = .ok (.aload_n 0, 1) := by decide +kernel
theorem d_M_takesSeveral_94 : decode b_M_takesSeveral 94 = .ok (.getfield 71, 3) := by decide +kernel
theorem d_M_takesSeveral_97 : decode b_M_takesSeveral 97 = .ok (.iload_n 3, 1) := by decide +kernel
theorem d_M_takesSeveral_98 : decode b_M_takesSeveral 98 = .ok (.iload 6, 2) := by decide +kernel
theorem d_M_takesSeveral_100 : decode b_M_takesSeveral 100 = .ok (.ifCond .eq 17, 3) := by decide +kernel
theorem d_M_takesSeveral_103 : decode b_M_takesSeveral 103 = .ok (.aload_n 0, 1) := by decide +kernel
theorem d_M_takesSeveral_104 : decode b_M_takesSeveral 104 = .ok (.getfield 71, 3) := by decide +kernel
theorem d_M_takesSeveral_107 : decode b_M_takesSeveral 107 = .ok (.iload_n 3, 1) := by decide +kernel
theorem d_M_takesSeveral_108 : decode b_M_takesSeveral 108 = .ok (.laload, 1) := by decide +kernel
theorem d_M_takesSeveral_109 : decode b_M_takesSeveral 109 = .ok (.lconst 1, 1) := by decide +kernel
theorem d_M_takesSeveral_110 : decode b_M_takesSeveral 110 = .ok (.iload 5, 2) := by decide +kernel
theorem d_M_takesSeveral_112 : decode b_M_takesSeveral 112 = .ok (.lshl, 1) := by decide +kernel
theorem d_M_takesSeveral_113 : decode b_M_takesSeveral 113 = .ok (.lor, 1) := by decide +kernel
theorem d_M_takesSeveral_114 : decode b_M_takesSeveral 114 = .ok (.goto 9, 3) := by decide +kernel
theorem d_M_takesSeveral_117 : decode b_M_takesSeveral 117 = .ok (.aload_n 0, 1) := by decide +kernel
theorem d_M_takesSeveral_118 : decode b_M_takesSeveral 118 = .ok (.getfield 71, 3) := by decide +kernel
theorem d_M_takesSeveral_121 : decode b_M_takesSeveral 121 = .ok (.iload_n 3, 1) := by decide +kernel
theorem d_M_takesSeveral_122 : decode b_M_takesSeveral 122 = .ok (.laload, 1) := by decide +kernel
theorem d_M_takesSeveral_123 : decode b_M_takesSeveral 123 = .ok (.lastore, 1) := by decide +kernel
theorem d_M_takesSeveral_124 : decode b_M_takesSeveral 124 = .ok (.iinc 5 1, 3) := by decide +kernel
theorem d_M_takesSeveral_127 : decode b_M_takesSeveral 127 = .ok (.goto (-104), 3) := by decide +kernel
theorem d_M_takesSeveral_130 : decode b_M_takesSeveral 130 = .ok (.iinc 4 1, 3) := by decide +kernel
theorem d_M_takesSeveral_133 : decode b_M_takesSeveral 133 = .ok (.aload_n 0, 1) := by decide +kernel
theorem d_M_takesSeveral_134 : decode b_M_takesSeveral 134 = .ok (.iload 4, 2) := by decide +kernel
theorem d_M_takesSeveral_136 : decode b_M_takesSeveral 136 = .ok (.iconst 3, 1) := by decide +kernel
theorem d_M_takesSeveral_137 : decode b_M_takesSeveral 137 = .ok (.invokevirtual 177, 3) := by decide +kernel
theorem d_M_takesSeveral_140 : decode b_M_takesSeveral 140 = .ok (.istore 5, 2) := by decide +kernel
theorem d_M_takesSeveral_142 : decode b_M_takesSeveral 142 = .ok (.iload 5, 2) := by decide +kernel
theorem d_M_takesSeveral_144 : decode b_M_takesSeveral 144 = .ok (.ifCond .eq 93, 3) := by decide +kernel
theorem d_M_takesSeveral_147 : decode b_M_takesSeveral 147 = .ok (.aload_n 0, 1) := by decide +kernel
theorem d_M_takesSeveral_148 : decode b_M_takesSeveral 148 = .ok (.getfield 180, 3) := by decide +kernel
theorem d_M_takesSeveral_151 : decode b_M_takesSeveral 151 = .ok (.ifCond .ne 86, 3) := by decide +kernel
theorem d_M_takesSeveral_154 : decode b_M_takesSeveral 154 = .ok (.iinc 4 1, 3) := by decide +kernel
theorem d_M_takesSeveral_157 : decode b_M_takesSeveral 157 = .ok (.iload 4, 2) := by decide +kernel
theorem d_M_takesSeveral_159 : decode b_M_takesSeveral 159 = .ok (.aload_n 0, 1) := by decide +kernel
theorem d_M_takesSeveral_160 : decode b_M_takesSeveral 160 = .ok (.getfield 167, 3) := by decide +kernel
theorem d_M_takesSeveral_163 : decode b_M_takesSeveral 163 = .ok (.if_icmp .ge 12, 3) := by decide +kernel
theorem d_M_takesSeveral_166 : decode b_M_takesSeveral 166 = .ok (.aload_n 0, 1) := by decide +kernel
theorem d_M_takesSeveral_167 : decode b_M_takesSeveral 167 = .ok (.iload 4, 2) := by decide +kernel
theorem d_M_takesSeveral_169 : decode b_M_takesSeveral 169 = .ok (.invokevirtual 229, 3) := by decide +kernel
theorem d_M_takesSeveral_172 : decode b_M_takesSeveral 172 = .ok (.goto 4, 3) := by decide +kernel
theorem d_M_takesSeveral_175 : decode b_M_takesSeveral 175 = .ok (.iconst 0, 1) := by decide +kernel
theorem d_M_takesSeveral_176 : decode b_M_takesSeveral 176 = .ok (.istore 6, 2) := by decide +kernel
theorem d_M_takesSeveral_178 : decode b_M_takesSeveral 178 = .ok (.iload 6, 2) := by decide +kernel
theorem d_M_takesSeveral_180 : decode b_M_takesSeveral 180 = .ok (.ifCond .ne 11, 3) := by decide +kernel
theorem d_M_takesSeveral_183 : decode b_M_takesSeveral 183 = .ok (.aload_n 0, 1) := by decide +kernel
theorem d_M_takesSeveral_184 : decode b_M_takesSeveral 184 = .ok (.bipush 7, 2) := by decide +kernel
theorem d_M_takesSeveral_186 : decode b_M_takesSeveral 186 = .ok (.iload 4, 2) := by decide +kernel
theorem d_M_takesSeveral_188 : decode b_M_takesSeveral 188 = .ok (.invokevirtual 205, 3) := by decide +kernel
theorem d_M_takesSeveral_191 : decode b_M_takesSeveral 191 = .ok (.aload_n 0, 1) := by decide +kernel
theorem d_M_takesSeveral_192 : decode b_M_takesSeveral 192 = .ok (.getfield 71, 3) := by decide +kernel
theorem d_M_takesSeveral_195 : decode b_M_takesSeveral 195 = .ok (.iload_n 3, 1) := by decide +kernel
theorem d_M_takesSeveral_196 : decode b_M_takesSeveral 196 = .ok (.dup2, 1) := by decide +kernel
theorem d_M_takesSeveral_197 : decode b_M_takesSeveral 197 = .ok (.laload, 1) := by decide +kernel
theorem d_M_takesSeveral_198 : decode b_M_takesSeveral 198 = .ok (.iload 6, 2) := by decide +kernel
theorem d_M_takesSeveral_200 : decode b_M_takesSeveral 200 = .ok (.ifCond .ne 9, 3) := by decide +kernel
theorem d_M_takesSeveral_203 : decode b_M_takesSeveral 203 = .ok (.ldc2_w 248, 3) := by decide +kernel
theorem d_M_takesSeveral_206 : decode b_M_takesSeveral 206 = .ok (.goto 11, 3) := by decide +kernel
theorem d_M_takesSeveral_209 : decode b_M_takesSeveral 209 = .ok (.aload_n 0, 1) := by decide +kernel
theorem d_M_takesSeveral_210 : decode b_M_takesSeveral 210 = .ok (.getfield 170, 3) := by decide +kernel
theorem d_M_takesSeveral_213 : decode b_M_takesSeveral 213 = .ok (.ldc2_w 248, 3) := by decide +kernel
theorem d_M_takesSeveral_216 : decode b_M_takesSeveral 216 = .ok (.lxor, 1) := by decide +kernel
theorem d_M_takesSeveral_217 : decode b_M_takesSeveral 217 = .ok (.land, 1) := by decide +kernel
theorem d_M_takesSeveral_218 : decode b_M_takesSeveral 218 = .ok (.lastore, 1) := by decide +kernel
theorem d_M_takesSeveral_219 : decode b_M_takesSeveral 219 = .ok (.iload 4, 2) := by decide +kernel
theorem d_M_takesSeveral_221 : decode b_M_takesSeveral 221 = .ok (.iload 6, 2) := by decide +kernel
theorem d_M_takesSeveral_223 : decode b_M_takesSeveral 223 = .ok (.iadd, 1) := by decide +kernel
theorem d_M_takesSeveral_224 : decode b_M_takesSeveral 224 = .ok (.istore 4, 2) := by decide +kernel
theorem d_M_takesSeveral_226 : decode b_M_takesSeveral 226 = .ok (.aload_n 0, 1) := by decide +kernel
theorem d_M_takesSeveral_227 : decode b_M_takesSeveral 227 = .ok (.iload 4, 2) := by decide +kernel
theorem d_M_takesSeveral_229 : decode b_M_takesSeveral 229 = .ok (.invokevirtual 220, 3) := by decide +kernel
theorem d_M_takesSeveral_232 : decode b_M_takesSeveral 232 = .ok (.istore 5, 2) := by decide +kernel
theorem d_M_takesSeveral_234 : decode b_M_takesSeveral 234 = .ok (.goto (-92), 3) := by decide +kernel
theorem d_M_takesSeveral_237 : decode b_M_takesSeveral 237 = .ok (.goto 84, 3) := by decide +kernel
theorem d_M_takesSeveral_240 : decode b_M_takesSeveral 240 = .ok (.aload_n 0, 1) := by decide +kernel
theorem d_M_takesSeveral_241 : decode b_M_takesSeveral 241 = .ok (.iload_n 1, 1) := by decide +kernel
theorem d_M_takesSeveral_242 : decode b_M_takesSeveral 242 = .ok (.bipush 6, 2) := by decide +kernel
theorem d_M_takesSeveral_244 : decode b_M_takesSeveral 244 = .ok (.if_icmp .ne 7, 3) := by decide +kernel
theorem d_M_takesSeveral_247 : decode b_M_takesSeveral 247 = .ok (.iconst 2, 1) := by decide +kernel
theorem d_M_takesSeveral_248 : decode b_M_takesSeveral 248 = .ok (.goto 4, 3) := by decide +kernel
theorem d_M_takesSeveral_251 : decode b_M_takesSeveral 251 = .ok (.iconst 3, 1) := by decide +kernel
theorem d_M_takesSeveral_252 : decode b_M_takesSeveral 252 = .ok (.iload 4, 2) := by decide +kernel
theorem d_M_takesSeveral_254 : decode b_M_takesSeveral 254 = .ok (.invokevirtual 217, 3) := by decide +kernel
theorem d_M_takesSeveral_257 : decode b_M_takesSeveral 257 = .ok (.istore 4, 2) := by decide +kernel
theorem d_M_takesSeveral_259 : decode b_M_takesSeveral 259 = .ok (.aload_n 0, 1) := by decide +kernel
theorem d_M_takesSeveral_260 : decode b_M_takesSeveral 260 = .ok (.getfield 180, 3) := by decide +kernel
theorem d_M_takesSeveral_263 : decode b_M_takesSeveral 263 = .ok (.ifCond .ne 58, 3) := by decide +kernel
theorem d_M_takesSeveral_266 : decode b_M_takesSeveral 266 = .ok (.aload_n 0, 1) := by decide +kernel
theorem d_M_takesSeveral_267 : decode b_M_takesSeveral 267 = .ok (.iload 4, 2) := by decide +kernel
theorem d_M_takesSeveral_269 : decode b_M_takesSeveral 269 = .ok (.invokevirtual 220, 3) := by decide +kernel
theorem d_M_takesSeveral_272 : decode b_M_takesSeveral 272 = .ok (.ifCond .eq 49, 3) := by decide +kernel
theorem d_M_takesSeveral_275 : decode b_M_takesSeveral 275 = .ok (.iload 4, 2) := by decide +kernel
theorem d_M_takesSeveral_277 : decode b_M_takesSeveral 277 = .ok (.iconst 1, 1) := by decide +kernel
theorem d_M_takesSeveral_278 : decode b_M_takesSeveral 278 = .ok (.iadd, 1) := by decide +kernel
theorem d_M_takesSeveral_279 : decode b_M_takesSeveral 279 = .ok (.aload_n 0, 1) := by decide +kernel
theorem d_M_takesSeveral_280 : decode b_M_takesSeveral 280 = .ok (.getfield 167, 3) := by decide +kernel
theorem d_M_takesSeveral_283 : decode b_M_takesSeveral 283 = .ok (.if_icmp .ge 25, 3) := by decide +kernel
theorem d_M_takesSeveral_286 : decode b_M_takesSeveral 286 = .ok (.aload_n 0, 1) := by decide +kernel
theorem d_M_takesSeveral_287 : decode b_M_takesSeveral 287 = .ok (.iload_n 1, 1) := by decide +kernel
theorem d_M_takesSeveral_288 : decode b_M_takesSeveral 288 = .ok (.bipush 6, 2) := by decide +kernel
theorem d_M_takesSeveral_290 : decode b_M_takesSeveral 290 = .ok (.if_icmp .ne 7, 3) := by decide +kernel
theorem d_M_takesSeveral_293 : decode b_M_takesSeveral 293 = .ok (.iconst 2, 1) := by decide +kernel
theorem d_M_takesSeveral_294 : decode b_M_takesSeveral 294 = .ok (.goto 4, 3) := by decide +kernel
theorem d_M_takesSeveral_297 : decode b_M_takesSeveral 297 = .ok (.iconst 3, 1) := by decide +kernel
theorem d_M_takesSeveral_298 : decode b_M_takesSeveral 298 = .ok (.iload 4, 2) := by decide +kernel
theorem d_M_takesSeveral_300 : decode b_M_takesSeveral 300 = .ok (.iconst 1, 1) := by decide +kernel
theorem d_M_takesSeveral_301 : decode b_M_takesSeveral 301 = .ok (.iadd, 1) := by decide +kernel
theorem d_M_takesSeveral_302 : decode b_M_takesSeveral 302 = .ok (.invokevirtual 217, 3) := by decide +kernel
theorem d_M_takesSeveral_305 : decode b_M_takesSeveral 305 = .ok (.goto 11, 3) := by decide +kernel
theorem d_M_takesSeveral_308 : decode b_M_takesSeveral 308 = .ok (.aload_n 0, 1) := by decide +kernel
theorem d_M_takesSeveral_309 : decode b_M_takesSeveral 309 = .ok (.iload 4, 2) := by decide +kernel
theorem d_M_takesSeveral_311 : decode b_M_takesSeveral 311 = .ok (.iconst 1, 1) := by decide +kernel
theorem d_M_takesSeveral_312 : decode b_M_takesSeveral 312 = .ok (.iadd, 1) := by decide +kernel
theorem d_M_takesSeveral_313 : decode b_M_takesSeveral 313 = .ok (.invokevirtual 250, 3) := by decide +kernel
theorem d_M_takesSeveral_316 : decode b_M_takesSeveral 316 = .ok (.istore 4, 2) := by decide +kernel
theorem d_M_takesSeveral_318 : decode b_M_takesSeveral 318 = .ok (.goto (-59), 3) := by decide +kernel
theorem d_M_takesSeveral_321 : decode b_M_takesSeveral 321 = .ok (.aload_n 0, 1) := by decide +kernel
theorem d_M_takesSeveral_322 : decode b_M_takesSeveral 322 = .ok (.getfield 180, 3) := by decide +kernel
theorem d_M_takesSeveral_325 : decode b_M_takesSeveral 325 = .ok (.ifCond .ne 21, 3) := by decide +kernel
theorem d_M_takesSeveral_328 : decode b_M_takesSeveral 328 = .ok (.aload_n 0, 1) := by decide +kernel
theorem d_M_takesSeveral_329 : decode b_M_takesSeveral 329 = .ok (.getfield 71, 3) := by decide +kernel
theorem d_M_takesSeveral_332 : decode b_M_takesSeveral 332 = .ok (.iload_n 3, 1) := by decide +kernel
theorem d_M_takesSeveral_333 : decode b_M_takesSeveral 333 = .ok (.laload, 1) := by decide +kernel
theorem d_M_takesSeveral_334 : decode b_M_takesSeveral 334 = .ok (.lconst 0, 1) := by decide +kernel
theorem d_M_takesSeveral_335 : decode b_M_takesSeveral 335 = .ok (.lcmp, 1) := by decide +kernel
theorem d_M_takesSeveral_336 : decode b_M_takesSeveral 336 = .ok (.ifCond .ne 10, 3) := by decide +kernel
theorem d_M_takesSeveral_339 : decode b_M_takesSeveral 339 = .ok (.aload_n 0, 1) := by decide +kernel
theorem d_M_takesSeveral_340 : decode b_M_takesSeveral 340 = .ok (.bipush 14, 2) := by decide +kernel
theorem d_M_takesSeveral_342 : decode b_M_takesSeveral 342 = .ok (.iload_n 2, 1) := by decide +kernel
theorem d_M_takesSeveral_343 : decode b_M_takesSeveral 343 = .ok (.invokevirtual 205, 3) := by decide +kernel
theorem d_M_takesSeveral_346 : decode b_M_takesSeveral 346 = .ok (.iload 4, 2) := by decide +kernel
theorem d_M_takesSeveral_348 : decode b_M_takesSeveral 348 = .ok (.ireturn, 1) := by decide +kernel
theorem d_M_takes_0 : decode b_M_takes 0 = .ok (.aload_n 0, 1) := by decide +kernel
theorem d_M_takes_1 : decode b_M_takes 1 = .ok (.getfield 29, 3) := by decide +kernel
theorem d_M_takes_4 : decode b_M_takes 4 = .ok (.bipush 8, 2) := by decide +kernel
theorem d_M_takes_6 : decode b_M_takes 6 = .ok (.iload_n 1, 1) := by decide +kernel
theorem d_M_takes_7 : decode b_M_takes 7 = .ok (.imul, 1) := by decide +kernel
theorem d_M_takes_8 : decode b_M_takes 8 = .ok (.iload_n 2, 1) := by decide +kernel
theorem d_M_takes_9 : decode b_M_takes 9 = .ok (.iadd, 1) := by decide +kernel
theorem d_M_takes_10 : decode b_M_takes 10 = .ok (.iaload, 1) := by decide +kernel
theorem d_M_takes_11 : decode b_M_takes 11 = .ok (.istore 4, 2) := by decide +kernel
theorem d_M_takes_13 : decode b_M_takes 13 = .ok (.iload 4, 2) := by decide +kernel
theorem d_M_takes_15 : decode b_M_takes 15 = .ok (.ifCond .ne 28, 3) := by decide +kernel
theorem d_M_takes_18 : decode b_M_takes 18 = .ok (.aload_n 0, 1) := by decide +kernel
theorem d_M_takes_19 : decode b_M_takes 19 = .ok (.iload_n 1, 1) := by decide +kernel
theorem d_M_takes_20 : decode b_M_takes 20 = .ok (.iload_n 2, 1) := by decide +kernel
theorem d_M_takes_21 : decode b_M_takes 21 = .ok (.aload_n 0, 1) := by decide +kernel
theorem d_M_takes_22 : decode b_M_takes 22 = .ok (.getfield 56, 3) := by decide +kernel
theorem d_M_takes_25 : decode b_M_takes 25 = .ok (.iload_n 3, 1) := by decide +kernel
theorem d_M_takes_26 : decode b_M_takes 26 = .ok (.iaload, 1) := by decide +kernel
theorem d_M_takes_27 : decode b_M_takes 27 = .ok (.invokevirtual 211, 3) := by decide +kernel
theorem d_M_takes_30 : decode b_M_takes 30 = .ok (.ifCond .ne 9, 3) := by decide +kernel
theorem d_M_takes_33 : decode b_M_takes 33 = .ok (.aload_n 0, 1) := by decide +kernel
theorem d_M_takes_34 : decode b_M_takes 34 = .ok (.iconst 5, 1) := by decide +kernel
theorem d_M_takes_35 : decode b_M_takes 35 = .ok (.iload_n 3, 1) := by decide +kernel
theorem d_M_takes_36 : decode b_M_takes 36 = .ok (.invokevirtual 205, 3) := by decide +kernel
theorem d_M_takes_39 : decode b_M_takes 39 = .ok (.iload_n 3, 1) := by decide +kernel
theorem d_M_takes_40 : decode b_M_takes 40 = .ok (.iconst 1, 1) := by decide +kernel
theorem d_M_takes_41 : decode b_M_takes 41 = .ok (.iadd, 1) := by decide +kernel
theorem d_M_takes_42 : decode b_M_takes 42 = .ok (.ireturn, 1) := by decide +kernel
theorem d_M_takes_43 : decode b_M_takes 43 = .ok (.aload_n 0, 1) := by decide +kernel
theorem d_M_takes_44 : decode b_M_takes 44 = .ok (.iload 4, 2) := by decide +kernel
theorem d_M_takes_46 : decode b_M_takes 46 = .ok (.iload_n 3, 1) := by decide +kernel
theorem d_M_takes_47 : decode b_M_takes 47 = .ok (.invokevirtual 214, 3) := by decide +kernel
theorem d_M_takes_50 : decode b_M_takes 50 = .ok (.iload 4, 2) := by decide +kernel
theorem d_M_takes_52 : decode b_M_takes 52 = .ok (.iconst 5, 1) := by decide +kernel
theorem d_M_takes_53 : decode b_M_takes 53 = .ok (.if_icmp .gt 39, 3) := by decide +kernel
theorem d_M_takes_56 : decode b_M_takes 56 = .ok (.aload_n 0, 1) := by decide +kernel
theorem d_M_takes_57 : decode b_M_takes 57 = .ok (.iload 4, 2) := by decide +kernel
theorem d_M_takes_59 : decode b_M_takes 59 = .ok (.iload_n 3, 1) := by decide +kernel
theorem d_M_takes_60 : decode b_M_takes 60 = .ok (.invokevirtual 217, 3) := by decide +kernel
theorem d_M_takes_63 : decode b_M_takes 63 = .ok (.istore 5, 2) := by decide +kernel
theorem d_M_takes_65 : decode b_M_takes 65 = .ok (.aload_n 0, 1) := by decide +kernel
theorem d_M_takes_66 : decode b_M_takes 66 = .ok (.getfield 180, 3) := by decide +kernel
theorem d_M_takes_69 : decode b_M_takes 69 = .ok (.ifCond .ne 20, 3) := by decide +kernel
theorem d_M_takes_72 : decode b_M_takes 72 = .ok (.aload_n 0, 1) := by decide +kernel
theorem d_M_takes_73 : decode b_M_takes 73 = .ok (.iload 5, 2) := by decide +kernel
theorem d_M_takes_75 : decode b_M_takes 75 = .ok (.invokevirtual 220, 3) := by decide +kernel
theorem d_M_takes_78 : decode b_M_takes 78 = .ok (.ifCond .eq 11, 3) := by decide +kernel
theorem d_M_takes_81 : decode b_M_takes 81 = .ok (.aload_n 0, 1) := by decide +kernel
theorem d_M_takes_82 : decode b_M_takes 82 = .ok (.bipush 13, 2) := by decide +kernel
theorem d_M_takes_84 : decode b_M_takes 84 = .ok (.iload 5, 2) := by decide +kernel
theorem d_M_takes_86 : decode b_M_takes 86 = .ok (.invokevirtual 205, 3) := by decide +kernel
theorem d_M_takes_89 : decode b_M_takes 89 = .ok (.iload 5, 2) := by decide +kernel
theorem d_M_takes_91 : decode b_M_takes 91 = .ok (.ireturn, 1) := by decide +kernel
theorem d_M_takes_92 : decode b_M_takes 92 = .ok (.iload 4, 2) := by decide +kernel
theorem d_M_takes_94 : decode b_M_takes 94 = .ok (.bipush 8, 2) := by decide +kernel
theorem d_M_takes_96 : decode b_M_takes 96 = .ok (.if_icmp .gt 11, 3) := by decide +kernel
theorem d_M_takes_99 : decode b_M_takes 99 = .ok (.aload_n 0, 1) := by decide +kernel
theorem d_M_takes_100 : decode b_M_takes 100 = .ok (.iload 4, 2) := by decide +kernel
theorem d_M_takes_102 : decode b_M_takes 102 = .ok (.iload_n 3, 1) := by decide +kernel
theorem d_M_takes_103 : decode b_M_takes 103 = .ok (.invokevirtual 223, 3) := by decide +kernel
theorem d_M_takes_106 : decode b_M_takes 106 = .ok (.ireturn, 1) := by decide +kernel
theorem d_M_takes_107 : decode b_M_takes 107 = .ok (.iload 4, 2) := by decide +kernel
theorem d_M_takes_109 : decode b_M_takes 109 = .ok (.bipush 9, 2) := by decide +kernel
theorem d_M_takes_111 : decode b_M_takes 111 = .ok (.if_icmp .ne 11, 3) := by decide +kernel
theorem d_M_takes_114 : decode b_M_takes 114 = .ok (.aload_n 0, 1) := by decide +kernel
theorem d_M_takes_115 : decode b_M_takes 115 = .ok (.iload_n 1, 1) := by decide +kernel
theorem d_M_takes_116 : decode b_M_takes 116 = .ok (.iload_n 2, 1) := by decide +kernel
theorem d_M_takes_117 : decode b_M_takes 117 = .ok (.iload_n 3, 1) := by decide +kernel
theorem d_M_takes_118 : decode b_M_takes 118 = .ok (.invokevirtual 226, 3) := by decide +kernel
theorem d_M_takes_121 : decode b_M_takes 121 = .ok (.ireturn, 1) := by decide +kernel
theorem d_M_takes_122 : decode b_M_takes 122 = .ok (.aload_n 0, 1) := by decide +kernel
theorem d_M_takes_123 : decode b_M_takes 123 = .ok (.getfield 186, 3) := by decide +kernel
theorem d_M_takes_126 : decode b_M_takes 126 = .ok (.iconst 1, 1) := by decide +kernel
theorem d_M_takes_127 : decode b_M_takes 127 = .ok (.isub, 1) := by decide +kernel
theorem d_M_takes_128 : decode b_M_takes 128 = .ok (.istore 5, 2) := by decide +kernel
theorem d_M_takes_130 : decode b_M_takes 130 = .ok (.iload 4, 2) := by decide +kernel
theorem d_M_takes_132 : decode b_M_takes 132 = .ok (.bipush 10, 2) := by decide +kernel
theorem d_M_takes_134 : decode b_M_takes 134 = .ok (.if_icmp .ne 42, 3) := by decide +kernel
theorem d_M_takes_137 : decode b_M_takes 137 = .ok (.aload_n 0, 1) := by decide +kernel
theorem d_M_takes_138 : decode b_M_takes 138 = .ok (.getfield 81, 3) := by decide +kernel
theorem d_M_takes_141 : decode b_M_takes 141 = .ok (.iload 5, 2) := by decide +kernel
theorem d_M_takes_143 : decode b_M_takes 143 = .ok (.aload_n 0, 1) := by decide +kernel
theorem d_M_takes_144 : decode b_M_takes 144 = .ok (.getfield 56, 3) := by decide +kernel
theorem d_M_takes_147 : decode b_M_takes 147 = .ok (.iload_n 3, 1) := by decide +kernel
theorem d_M_takes_148 : decode b_M_takes 148 = .ok (.iaload, 1) := by decide +kernel
theorem d_M_takes_149 : decode b_M_takes 149 = .ok (.sipush 10000, 3) := by decide +kernel
theorem d_M_takes_152 : decode b_M_takes 152 = .ok (.isub, 1) := by decide +kernel
theorem d_M_takes_153 : decode b_M_takes 153 = .ok (.iastore, 1) := by decide +kernel
theorem d_M_takes_154 : decode b_M_takes 154 = .ok (.aload_n 0, 1) := by decide +kernel
theorem d_M_takes_155 : decode b_M_takes 155 = .ok (.getfield 56, 3) := by decide +kernel
theorem d_M_takes_158 : decode b_M_takes 158 = .ok (.iload_n 3, 1) := by decide +kernel
theorem d_M_takes_159 : decode b_M_takes 159 = .ok (.iaload, 1) := by decide +kernel
theorem d_M_takes_160 : decode b_M_takes 160 = .ok (.sipush 10000, 3) := by decide +kernel
theorem d_M_takes_163 : decode b_M_takes 163 = .ok (.if_icmp .ge 79, 3) := by decide +kernel
theorem d_M_takes_166 : decode b_M_takes 166 = .ok (.aload_n 0, 1) := by decide +kernel
theorem d_M_takes_167 : decode b_M_takes 167 = .ok (.bipush 8, 2) := by decide +kernel
theorem d_M_takes_169 : decode b_M_takes 169 = .ok (.iload_n 3, 1) := by decide +kernel
theorem d_M_takes_170 : decode b_M_takes 170 = .ok (.invokevirtual 205, 3) := by decide +kernel
theorem d_M_takes_173 : decode b_M_takes 173 = .ok (.goto 69, 3) := by decide +kernel
theorem d_M_takes_176 : decode b_M_takes 176 = .ok (.aload_n 0, 1) := by decide +kernel
theorem d_M_takes_177 : decode b_M_takes 177 = .ok (.aload_n 0, 1) := by decide +kernel
theorem d_M_takes_178 : decode b_M_takes 178 = .ok (.getfield 32, 3) := by decide +kernel
theorem d_M_takes_181 : decode b_M_takes 181 = .ok (.bipush 8, 2) := by decide +kernel
theorem d_M_takes_183 : decode b_M_takes 183 = .ok (.iload_n 1, 1) := by decide +kernel
theorem d_M_takes_184 : decode b_M_takes 184 = .ok (.imul, 1) := by decide +kernel
theorem d_M_takes_185 : decode b_M_takes 185 = .ok (.iload_n 2, 1) := by decide +kernel
theorem d_M_takes_186 : decode b_M_takes 186 = .ok (.iadd, 1) := by decide +kernel
theorem d_M_takes_187 : decode b_M_takes 187 = .ok (.iaload, 1) := by decide +kernel
theorem d_M_takes_188 : decode b_M_takes 188 = .ok (.aload_n 0, 1) := by decide +kernel
theorem d_M_takes_189 : decode b_M_takes 189 = .ok (.getfield 56, 3) := by decide +kernel
theorem d_M_takes_192 : decode b_M_takes 192 = .ok (.iload_n 3, 1) := by decide +kernel
theorem d_M_takes_193 : decode b_M_takes 193 = .ok (.iaload, 1) := by decide +kernel
theorem d_M_takes_194 : decode b_M_takes 194 = .ok (.invokevirtual 150, 3) := by decide +kernel
theorem d_M_takes_197 : decode b_M_takes 197 = .ok (.istore 6, 2) := by decide +kernel
theorem d_M_takes_199 : decode b_M_takes 199 = .ok (.aload_n 0, 1) := by decide +kernel
theorem d_M_takes_200 : decode b_M_takes 200 = .ok (.getfield 81, 3) := by decide +kernel
theorem d_M_takes_203 : decode b_M_takes 203 = .ok (.iload 5, 2) := by decide +kernel
theorem d_M_takes_205 : decode b_M_takes 205 = .ok (.iload 6, 2) := by decide +kernel
theorem d_M_takes_207 : decode b_M_takes 207 = .ok (.aload_n 0, 1) := by decide +kernel
theorem d_M_takes_208 : decode b_M_takes 208 = .ok (.getfield 147, 3) := by decide +kernel
theorem d_M_takes_211 : decode b_M_takes 211 = .ok (.if_icmp .ge 13, 3) := by decide +kernel
theorem d_M_takes_214 : decode b_M_takes 214 = .ok (.aload_n 0, 1) := by decide +kernel
theorem d_M_takes_215 : decode b_M_takes 215 = .ok (.getfield 50, 3) := by decide +kernel
theorem d_M_takes_218 : decode b_M_takes 218 = .ok (.iload 6, 2) := by decide +kernel
theorem d_M_takes_220 : decode b_M_takes 220 = .ok (.iaload, 1) := by decide +kernel
theorem d_M_takes_221 : decode b_M_takes 221 = .ok (.goto 4, 3) := by decide +kernel
theorem d_M_takes_224 : decode b_M_takes 224 = .ok (.iconst 0, 1) := by decide +kernel
theorem d_M_takes_225 : decode b_M_takes 225 = .ok (.iastore, 1) := by decide +kernel
theorem d_M_takes_226 : decode b_M_takes 226 = .ok (.iload 6, 2) := by decide +kernel
theorem d_M_takes_228 : decode b_M_takes 228 = .ok (.aload_n 0, 1) := by decide +kernel
theorem d_M_takes_229 : decode b_M_takes 229 = .ok (.getfield 147, 3) := by decide +kernel
theorem d_M_takes_232 : decode b_M_takes 232 = .ok (.if_icmp .ne 10, 3) := by decide +kernel
theorem d_M_takes_235 : decode b_M_takes 235 = .ok (.aload_n 0, 1) := by decide +kernel
theorem d_M_takes_236 : decode b_M_takes 236 = .ok (.bipush 9, 2) := by decide +kernel
theorem d_M_takes_238 : decode b_M_takes 238 = .ok (.iload_n 3, 1) := by decide +kernel
theorem d_M_takes_239 : decode b_M_takes 239 = .ok (.invokevirtual 205, 3) := by decide +kernel
theorem d_M_takes_242 : decode b_M_takes 242 = .ok (.iload_n 3, 1) := by decide +kernel
theorem d_M_takes_243 : decode b_M_takes 243 = .ok (.iconst 1, 1) := by decide +kernel
theorem d_M_takes_244 : decode b_M_takes 244 = .ok (.iadd, 1) := by decide +kernel
theorem d_M_takes_245 : decode b_M_takes 245 = .ok (.ireturn, 1) := by decide +kernel
theorem d_M_goesWith_0 : decode b_M_goesWith 0 = .ok (.iload_n 1, 1) := by decide +kernel
theorem d_M_goesWith_1 : decode b_M_goesWith 1 = .ok (.iconst 2, 1) := by decide +kernel
theorem d_M_goesWith_2 : decode b_M_goesWith 2 = .ok (.if_icmp .ne 27, 3) := by decide +kernel
theorem d_M_goesWith_5 : decode b_M_goesWith 5 = .ok (.aload_n 0, 1) := by decide +kernel
theorem d_M_goesWith_6 : decode b_M_goesWith 6 = .ok (.iload_n 2, 1) := by decide +kernel
theorem d_M_goesWith_7 : decode b_M_goesWith 7 = .ok (.invokevirtual 174, 3) := by decide +kernel
theorem d_M_goesWith_10 : decode b_M_goesWith 10 = .ok (.ifCond .eq 15, 3) := by decide +kernel
theorem d_M_goesWith_13 : decode b_M_goesWith 13 = .ok (.aload_n 0, 1) := by decide +kernel
theorem d_M_goesWith_14 : decode b_M_goesWith 14 = .ok (.iload_n 2, 1) := by decide +kernel
theorem d_M_goesWith_15 : decode b_M_goesWith 15 = .ok (.invokevirtual 235, 3) := by decide +kernel
theorem d_M_goesWith_18 : decode b_M_goesWith 18 = .ok (.ifCond .ne 7, 3) := by decide +kernel
theorem d_M_goesWith_21 : decode b_M_goesWith 21 = .ok (.iconst 1, 1) := by decide +kernel
theorem d_M_goesWith_22 : decode b_M_goesWith 22 = .ok (.goto 70, 3) := by decide +kernel
theorem d_M_goesWith_25 : decode b_M_goesWith 25 = .ok (.iconst 0, 1) := by decide +kernel
theorem d_M_goesWith_26 : decode b_M_goesWith 26 = .ok (.goto 66, 3) := by decide +kernel
theorem d_M_goesWith_29 : decode b_M_goesWith 29 = .ok (.iload_n 1, 1) := by decide +kernel
theorem d_M_goesWith_30 : decode b_M_goesWith 30 = .ok (.iconst 3, 1) := by decide +kernel
theorem d_M_goesWith_31 : decode b_M_goesWith 31 = .ok (.if_icmp .ne 27, 3) := by decide +kernel
theorem d_M_goesWith_34 : decode b_M_goesWith 34 = .ok (.aload_n 0, 1) := by decide +kernel
theorem d_M_goesWith_35 : decode b_M_goesWith 35 = .ok (.iload_n 2, 1) := by decide +kernel
theorem d_M_goesWith_36 : decode b_M_goesWith 36 = .ok (.invokevirtual 160, 3) := by decide +kernel
theorem d_M_goesWith_39 : decode b_M_goesWith 39 = .ok (.ifCond .eq 15, 3) := by decide +kernel
theorem d_M_goesWith_42 : decode b_M_goesWith 42 = .ok (.aload_n 0, 1) := by decide +kernel
theorem d_M_goesWith_43 : decode b_M_goesWith 43 = .ok (.iload_n 2, 1) := by decide +kernel
theorem d_M_goesWith_44 : decode b_M_goesWith 44 = .ok (.invokevirtual 235, 3) := by decide +kernel
theorem d_M_goesWith_47 : decode b_M_goesWith 47 = .ok (.ifCond .ne 7, 3) := by decide +kernel
theorem d_M_goesWith_50 : decode b_M_goesWith 50 = .ok (.iconst 1, 1) := by decide +kernel
theorem d_M_goesWith_51 : decode b_M_goesWith 51 = .ok (.goto 41, 3) := by decide +kernel
theorem d_M_goesWith_54 : decode b_M_goesWith 54 = .ok (.iconst 0, 1) := by decide +kernel
theorem d_M_goesWith_55 : decode b_M_goesWith 55 = .ok (.goto 37, 3) := by decide +kernel
theorem d_M_goesWith_58 : decode b_M_goesWith 58 = .ok (.iload_n 1, 1) := by decide +kernel
theorem d_M_goesWith_59 : decode b_M_goesWith 59 = .ok (.iconst 4, 1) := by decide +kernel
theorem d_M_goesWith_60 : decode b_M_goesWith 60 = .ok (.if_icmp .ne 11, 3) := by decide +kernel
theorem d_M_goesWith_63 : decode b_M_goesWith 63 = .ok (.aload_n 0, 1) := by decide +kernel
theorem d_M_goesWith_64 : decode b_M_goesWith 64 = .ok (.iload_n 2, 1) := by decide +kernel
theorem d_M_goesWith_65 : decode b_M_goesWith 65 = .ok (.invokevirtual 232, 3) := by decide +kernel
theorem d_M_goesWith_68 : decode b_M_goesWith 68 = .ok (.goto 24, 3) := by decide +kernel
theorem d_M_goesWith_71 : decode b_M_goesWith 71 = .ok (.aload_n 0, 1) := by decide +kernel
theorem d_M_goesWith_72 : decode b_M_goesWith 72 = .ok (.iload_n 2, 1) := by decide +kernel
theorem d_M_goesWith_73 : decode b_M_goesWith 73 = .ok (.invokevirtual 235, 3) := by decide +kernel
theorem d_M_goesWith_76 : decode b_M_goesWith 76 = .ok (.ifCond .eq 15, 3) := by decide +kernel
theorem d_M_goesWith_79 : decode b_M_goesWith 79 = .ok (.aload_n 0, 1) := by decide +kernel
theorem d_M_goesWith_80 : decode b_M_goesWith 80 = .ok (.iload_n 2, 1) := by decide +kernel
theorem d_M_goesWith_81 : decode b_M_goesWith 81 = .ok (.invokevirtual 174, 3) := by decide +kernel
theorem d_M_goesWith_84 : decode b_M_goesWith 84 = .ok (.ifCond .eq 7, 3) := by decide +kernel
theorem d_M_goesWith_87 : decode b_M_goesWith 87 = .ok (.iconst 1, 1) := by decide +kernel
theorem d_M_goesWith_88 : decode b_M_goesWith 88 = .ok (.goto 4, 3) := by decide +kernel
theorem d_M_goesWith_91 : decode b_M_goesWith 91 = .ok (.iconst 0, 1) := by decide +kernel
theorem d_M_goesWith_92 : decode b_M_goesWith 92 = .ok (.ireturn, 1) := by decide +kernel
theorem d_M_isFilled_0 : decode b_M_isFilled 0 = .ok (.iload_n 2, 1) := by decide +kernel
theorem d_M_isFilled_1 : decode b_M_isFilled 1 = .ok (.istore_n 3, 1) := by decide +kernel
theorem d_M_isFilled_2 : decode b_M_isFilled 2 = .ok (.iload_n 3, 1) := by decide +kernel
theorem d_M_isFilled_3 : decode b_M_isFilled 3 = .ok (.aload_n 0, 1) := by decide +kernel
theorem d_M_isFilled_4 : decode b_M_isFilled 4 = .ok (.getfield 26, 3) := by decide +kernel
theorem d_M_isFilled_7 : decode b_M_isFilled 7 = .ok (.iload_n 1, 1) := by decide +kernel
theorem d_M_isFilled_8 : decode b_M_isFilled 8 = .ok (.iaload, 1) := by decide +kernel
theorem d_M_isFilled_9 : decode b_M_isFilled 9 = .ok (.if_icmp .ge 208, 3) := by decide +kernel
theorem d_M_isFilled_12 : decode b_M_isFilled 12 = .ok (.aload_n 0, 1) := by decide +kernel
theorem d_M_isFilled_13 : decode b_M_isFilled 13 = .ok (.getfield 29, 3) := by decide +kernel
theorem d_M_isFilled_16 : decode b_M_isFilled 16 = .ok (.bipush 8, 2) := by decide +kernel
theorem d_M_isFilled_18 : decode b_M_isFilled 18 = .ok (.iload_n 1, 1) := by decide +kernel
theorem d_M_isFilled_19 : decode b_M_isFilled 19 = .ok (.imul, 1) := by decide +kernel
theorem d_M_isFilled_20 : decode b_M_isFilled 20 = .ok (.iload_n 3, 1) := by decide +kernel
theorem d_M_isFilled_21 : decode b_M_isFilled 21 = .ok (.iadd, 1) := by decide +kernel
theorem d_M_isFilled_22 : decode b_M_isFilled 22 = .ok (.iaload, 1) := by decide +kernel
theorem d_M_isFilled_23 : decode b_M_isFilled 23 = .ok (.istore 4, 2) := by decide +kernel
theorem d_M_isFilled_25 : decode b_M_isFilled 25 = .ok (.iload 4, 2) := by decide +kernel
theorem d_M_isFilled_27 : decode b_M_isFilled 27 = .ok (.ifCond .ne 26, 3) := by decide +kernel
theorem d_M_isFilled_30 : decode b_M_isFilled 30 = .ok (.aload_n 0, 1) := by decide +kernel
theorem d_M_isFilled_31 : decode b_M_isFilled 31 = .ok (.getfield 62, 3) := by decide +kernel
theorem d_M_isFilled_34 : decode b_M_isFilled 34 = .ok (.aload_n 0, 1) := by decide +kernel
theorem d_M_isFilled_35 : decode b_M_isFilled 35 = .ok (.getfield 192, 3) := by decide +kernel
theorem d_M_isFilled_38 : decode b_M_isFilled 38 = .ok (.aload_n 0, 1) := by decide +kernel
theorem d_M_isFilled_39 : decode b_M_isFilled 39 = .ok (.getfield 32, 3) := by decide +kernel
theorem d_M_isFilled_42 : decode b_M_isFilled 42 = .ok (.bipush 8, 2) := by decide +kernel
theorem d_M_isFilled_44 : decode b_M_isFilled 44 = .ok (.iload_n 1, 1) := by decide +kernel
theorem d_M_isFilled_45 : decode b_M_isFilled 45 = .ok (.imul, 1) := by decide +kernel
theorem d_M_isFilled_46 : decode b_M_isFilled 46 = .ok (.iload_n 3, 1) := by decide +kernel
theorem d_M_isFilled_47 : decode b_M_isFilled 47 = .ok (.iadd, 1) := by decide +kernel
theorem d_M_isFilled_48 : decode b_M_isFilled 48 = .ok (.iaload, 1) := by decide +kernel
theorem d_M_isFilled_49 : decode b_M_isFilled 49 = .ok (.iastore, 1) := by decide +kernel
theorem d_M_isFilled_50 : decode b_M_isFilled 50 = .ok (.goto 147, 3) := by decide +kernel
theorem d_M_isFilled_53 : decode b_M_isFilled 53 = .ok (.lconst 0, 1) := by decide +kernel
theorem d_M_isFilled_54 : decode b_M_isFilled 54 = .ok (.lstore 5, 2) := by decide +kernel
theorem d_M_isFilled_56 : decode b_M_isFilled 56 = .ok (.iconst 0, 1) := by decide +kernel
theorem d_M_isFilled_57 : decode b_M_isFilled 57 = .ok (.istore 7, 2) := by decide +kernel
theorem d_M_isFilled_59 : decode b_M_isFilled 59 = .ok (.iload 7, 2) := by decide +kernel
theorem d_M_isFilled_61 : decode b_M_isFilled 61 = .ok (.aload_n 0, 1) := by decide +kernel
theorem d_M_isFilled_62 : decode b_M_isFilled 62 = .ok (.getfield 186, 3) := by decide +kernel
theorem d_M_isFilled_65 : decode b_M_isFilled 65 = .ok (.if_icmp .ge 21, 3) := by decide +kernel
theorem d_M_isFilled_68 : decode b_M_isFilled 68 = .ok (.lload 5, 2) := by decide +kernel
theorem d_M_isFilled_70 : decode b_M_isFilled 70 = .ok (.aload_n 0, 1) := by decide +kernel
theorem d_M_isFilled_71 : decode b_M_isFilled 71 = .ok (.getfield 71, 3) := by decide +kernel
theorem d_M_isFilled_74 : decode b_M_isFilled 74 = .ok (.iload 7, 2) := by decide +kernel
theorem d_M_isFilled_76 : decode b_M_isFilled 76 = .ok (.laload, 1) := by decide +kernel
theorem d_M_isFilled_77 : decode b_M_isFilled 77 = .ok (.lor, 1) := by decide +kernel
theorem d_M_isFilled_78 : decode b_M_isFilled 78 = .ok (.lstore 5, 2) := by decide +kernel
theorem d_M_isFilled_80 : decode b_M_isFilled 80 = .ok (.iinc 7 1, 3) := by decide +kernel
theorem d_M_isFilled_83 : decode b_M_isFilled 83 = .ok (.goto (-24), 3) := by decide +kernel
theorem d_M_isFilled_86 : decode b_M_isFilled 86 = .ok (.lconst 0, 1) := by decide +kernel
theorem d_M_isFilled_87 : decode b_M_isFilled 87 = .ok (.lstore 7, 2) := by decide +kernel
theorem d_M_isFilled_89 : decode b_M_isFilled 89 = .ok (.iconst 0, 1) := by decide +kernel
theorem d_M_isFilled_90 : decode b_M_isFilled 90 = .ok (.istore 9, 2) := by decide +kernel
theorem d_M_isFilled_92 : decode b_M_isFilled 92 = .ok (.iload 9, 2) := by decide +kernel
theorem d_M_isFilled_94 : decode b_M_isFilled 94 = .ok (.aload_n 0, 1) := by decide +kernel
theorem d_M_isFilled_95 : decode b_M_isFilled 95 = .ok (.getfield 140, 3) := by decide +kernel
theorem d_M_isFilled_98 : decode b_M_isFilled 98 = .ok (.if_icmp .ge 44, 3) := by decide +kernel
theorem d_M_isFilled_101 : decode b_M_isFilled 101 = .ok (.aload_n 0, 1) := by decide +kernel
theorem d_M_isFilled_102 : decode b_M_isFilled 102 = .ok (.iload 4, 2) := by decide +kernel
theorem d_M_isFilled_104 : decode b_M_isFilled 104 = .ok (.iload 9, 2) := by decide +kernel
theorem d_M_isFilled_106 : decode b_M_isFilled 106 = .ok (.invokevirtual 259, 3) := by decide +kernel
theorem d_M_isFilled_109 : decode b_M_isFilled 109 = .ok (.ifCond .eq 23, 3) := by decide +kernel
theorem d_M_isFilled_112 : decode b_M_isFilled 112 = .ok (.lload 5, 2) := by decide +kernel
theorem d_M_isFilled_114 : decode b_M_isFilled 114 = .ok (.iload 9, 2) := by decide +kernel
theorem d_M_isFilled_116 : decode b_M_isFilled 116 = .ok (.invokestatic 163, 3) := by decide +kernel
theorem d_M_isFilled_119 : decode b_M_isFilled 119 = .ok (.ifCond .ne 13, 3) := by decide +kernel
theorem d_M_isFilled_122 : decode b_M_isFilled 122 = .ok (.lload 7, 2) := by decide +kernel
theorem d_M_isFilled_124 : decode b_M_isFilled 124 = .ok (.lconst 1, 1) := by decide +kernel
theorem d_M_isFilled_125 : decode b_M_isFilled 125 = .ok (.iload 9, 2) := by decide +kernel
theorem d_M_isFilled_127 : decode b_M_isFilled 127 = .ok (.lshl, 1) := by decide +kernel
theorem d_M_isFilled_128 : decode b_M_isFilled 128 = .ok (.lor, 1) := by decide +kernel
theorem d_M_isFilled_129 : decode b_M_isFilled 129 = .ok (.goto 5, 3) := by decide +kernel
theorem d_M_isFilled_132 : decode b_M_isFilled 132 = .ok (.lload 7, 2) := by decide +kernel
theorem d_M_isFilled_134 : decode b_M_isFilled 134 = .ok (.lstore 7, 2) := by decide +kernel
theorem d_M_isFilled_136 : decode b_M_isFilled 136 = .ok (.iinc 9 1, 3) := by decide +kernel
theorem d_M_isFilled_139 : decode b_M_isFilled 139 = .ok (.goto (-47), 3) := by decide +kernel
theorem d_M_isFilled_142 : decode b_M_isFilled 142 = .ok (.aload_n 0, 1) := by decide +kernel
theorem d_M_isFilled_143 : decode b_M_isFilled 143 = .ok (.lload 7, 2) := by decide +kernel
theorem d_M_isFilled_145 : decode b_M_isFilled 145 = .ok (.invokevirtual 238, 3) := by decide +kernel
theorem d_M_isFilled_148 : decode b_M_isFilled 148 = .ok (.iconst 1, 1) := by decide +kernel
theorem d_M_isFilled_149 : decode b_M_isFilled 149 = .ok (.if_icmp .eq 5, 3) := by decide +kernel
theorem d_M_isFilled_152 : decode b_M_isFilled 152 = .ok (.iconst 0, 1) := by decide +kernel
theorem d_M_isFilled_153 : decode b_M_isFilled 153 = .ok (.ireturn, 1) := by decide +kernel
theorem d_M_isFilled_154 : decode b_M_isFilled 154 = .ok (.aload_n 0, 1) := by decide +kernel
theorem d_M_isFilled_155 : decode b_M_isFilled 155 = .ok (.iload 4, 2) := by decide +kernel
theorem d_M_isFilled_157 : decode b_M_isFilled 157 = .ok (.aload_n 0, 1) := by decide +kernel
theorem d_M_isFilled_158 : decode b_M_isFilled 158 = .ok (.getfield 167, 3) := by decide +kernel
theorem d_M_isFilled_161 : decode b_M_isFilled 161 = .ok (.invokevirtual 214, 3) := by decide +kernel
theorem d_M_isFilled_164 : decode b_M_isFilled 164 = .ok (.aload_n 0, 1) := by decide +kernel
theorem d_M_isFilled_165 : decode b_M_isFilled 165 = .ok (.getfield 71, 3) := by decide +kernel
theorem d_M_isFilled_168 : decode b_M_isFilled 168 = .ok (.aload_n 0, 1) := by decide +kernel
theorem d_M_isFilled_169 : decode b_M_isFilled 169 = .ok (.getfield 186, 3) := by decide +kernel
theorem d_M_isFilled_172 : decode b_M_isFilled 172 = .ok (.iconst 1, 1) := by decide +kernel
theorem d_M_isFilled_173 : decode b_M_isFilled 173 = .ok (.isub, 1) := by decide +kernel
theorem d_M_isFilled_174 : decode b_M_isFilled 174 = .ok (.lload 7, 2) := by decide +kernel
theorem d_M_isFilled_176 : decode b_M_isFilled 176 = .ok (.lastore, 1) := by decide +kernel
theorem d_M_isFilled_177 : decode b_M_isFilled 177 = .ok (.aload_n 0, 1) := by decide +kernel
theorem d_M_isFilled_178 : decode b_M_isFilled 178 = .ok (.getfield 62, 3) := by decide +kernel
theorem d_M_isFilled_181 : decode b_M_isFilled 181 = .ok (.aload_n 0, 1) := by decide +kernel
theorem d_M_isFilled_182 : decode b_M_isFilled 182 = .ok (.getfield 192, 3) := by decide +kernel
theorem d_M_isFilled_185 : decode b_M_isFilled 185 = .ok (.sipush 20000, 3) := by decide +kernel
theorem d_M_isFilled_188 : decode b_M_isFilled 188 = .ok (.aload_n 0, 1) := by decide +kernel
theorem d_M_isFilled_189 : decode b_M_isFilled 189 = .ok (.lload 7, 2) := by decide +kernel
theorem d_M_isFilled_191 : decode b_M_isFilled 191 = .ok (.iconst 0, 1) := by decide +kernel
theorem d_M_isFilled_192 : decode b_M_isFilled 192 = .ok (.invokevirtual 262, 3) := by decide +kernel
theorem d_M_isFilled_195 : decode b_M_isFilled 195 = .ok (.iadd, 1) := by decide +kernel
theorem d_M_isFilled_196 : decode b_M_isFilled 196 = .ok (.iastore, 1) := by decide +kernel
theorem d_M_isFilled_197 : decode b_M_isFilled 197 = .ok (.aload_n 0, 1) := by decide +kernel
theorem d_M_isFilled_198 : decode b_M_isFilled 198 = .ok (.dup, 1) := by decide +kernel
theorem d_M_isFilled_199 : decode b_M_isFilled 199 = .ok (.getfield 192, 3) := by decide +kernel
theorem d_M_isFilled_202 : decode b_M_isFilled 202 = .ok (.iconst 1, 1) := by decide +kernel
theorem d_M_isFilled_203 : decode b_M_isFilled 203 = .ok (.iadd, 1) := by decide +kernel
theorem d_M_isFilled_204 : decode b_M_isFilled 204 = .ok (.putfield 192, 3) := by decide +kernel
theorem d_M_isFilled_207 : decode b_M_isFilled 207 = .ok (.aload_n 0, 1) := by decide +kernel
theorem d_M_isFilled_208 : decode b_M_isFilled 208 = .ok (.iload_n 1, 1) := by decide +kernel
theorem d_M_isFilled_209 : decode b_M_isFilled 209 = .ok (.iload_n 3, 1) := by decide +kernel
theorem d_M_isFilled_210 : decode b_M_isFilled 210 = .ok (.invokevirtual 189, 3) := by decide +kernel
theorem d_M_isFilled_213 : decode b_M_isFilled 213 = .ok (.istore_n 3, 1) := by decide +kernel
theorem d_M_isFilled_214 : decode b_M_isFilled 214 = .ok (.goto (-212), 3) := by decide +kernel
theorem d_M_isFilled_217 : decode b_M_isFilled 217 = .ok (.iconst 1, 1) := by decide +kernel
theorem d_M_isFilled_218 : decode b_M_isFilled 218 = .ok (.ireturn, 1) := by decide +kernel
theorem d_M_ends_0 : decode b_M_ends 0 = .ok (.iconst 0, 1) := by decide +kernel
theorem d_M_ends_1 : decode b_M_ends 1 = .ok (.istore_n 3, 1) := by decide +kernel
theorem d_M_ends_2 : decode b_M_ends 2 = .ok (.iconst 1, 1) := by decide +kernel
theorem d_M_ends_3 : decode b_M_ends 3 = .ok (.istore 4, 2) := by decide +kernel
theorem d_M_ends_5 : decode b_M_ends 5 = .ok (.iload_n 2, 1) := by decide +kernel
theorem d_M_ends_6 : decode b_M_ends 6 = .ok (.istore 5, 2) := by decide +kernel
theorem d_M_ends_8 : decode b_M_ends 8 = .ok (.iload 5, 2) := by decide +kernel
theorem d_M_ends_10 : decode b_M_ends 10 = .ok (.aload_n 0, 1) := by decide +kernel
theorem d_M_ends_11 : decode b_M_ends 11 = .ok (.getfield 26, 3) := by decide +kernel
theorem d_M_ends_14 : decode b_M_ends 14 = .ok (.iload_n 1, 1) := by decide +kernel
theorem d_M_ends_15 : decode b_M_ends 15 = .ok (.iaload, 1) := by decide +kernel
theorem d_M_ends_16 : decode b_M_ends 16 = .ok (.if_icmp .ge 57, 3) := by decide +kernel
theorem d_M_ends_19 : decode b_M_ends 19 = .ok (.aload_n 0, 1) := by decide +kernel
theorem d_M_ends_20 : decode b_M_ends 20 = .ok (.getfield 29, 3) := by decide +kernel
theorem d_M_ends_23 : decode b_M_ends 23 = .ok (.bipush 8, 2) := by decide +kernel
theorem d_M_ends_25 : decode b_M_ends 25 = .ok (.iload_n 1, 1) := by decide +kernel
theorem d_M_ends_26 : decode b_M_ends 26 = .ok (.imul, 1) := by decide +kernel
theorem d_M_ends_27 : decode b_M_ends 27 = .ok (.iload 5, 2) := by decide +kernel
theorem d_M_ends_29 : decode b_M_ends 29 = .ok (.iadd, 1) := by decide +kernel
theorem d_M_ends_30 : decode b_M_ends 30 = .ok (.iaload, 1) := by decide +kernel
theorem d_M_ends_31 : decode b_M_ends 31 = .ok (.istore 6, 2) := by decide +kernel
theorem d_M_ends_33 : decode b_M_ends 33 = .ok (.iload_n 3, 1) := by decide +kernel
theorem d_M_ends_34 : decode b_M_ends 34 = .ok (.iload 6, 2) := by decide +kernel
theorem d_M_ends_36 : decode b_M_ends 36 = .ok (.invokestatic 137, 3) := by decide +kernel
theorem d_M_ends_39 : decode b_M_ends 39 = .ok (.ifCond .eq 7, 3) := by decide +kernel
theorem d_M_ends_42 : decode b_M_ends 42 = .ok (.iconst 1, 1) := by decide +kernel
theorem d_M_ends_43 : decode b_M_ends 43 = .ok (.goto 4, 3) := by decide +kernel
theorem d_M_ends_46 : decode b_M_ends 46 = .ok (.iconst 0, 1) := by decide +kernel
theorem d_M_ends_47 : decode b_M_ends 47 = .ok (.iadd, 1) := by decide +kernel
theorem d_M_ends_48 : decode b_M_ends 48 = .ok (.istore_n 3, 1) := by decide +kernel
theorem d_M_ends_49 : decode b_M_ends 49 = .ok (.iload 4, 2) := by decide +kernel
theorem d_M_ends_51 : decode b_M_ends 51 = .ok (.ifCond .eq 13, 3) := by decide +kernel
theorem d_M_ends_54 : decode b_M_ends 54 = .ok (.iload 6, 2) := by decide +kernel
theorem d_M_ends_56 : decode b_M_ends 56 = .ok (.iconst 5, 1) := by decide +kernel
theorem d_M_ends_57 : decode b_M_ends 57 = .ok (.if_icmp .gt 7, 3) := by decide +kernel
theorem d_M_ends_60 : decode b_M_ends 60 = .ok (.iconst 1, 1) := by decide +kernel
theorem d_M_ends_61 : decode b_M_ends 61 = .ok (.goto 4, 3) := by decide +kernel
theorem d_M_ends_64 : decode b_M_ends 64 = .ok (.iconst 0, 1) := by decide +kernel
theorem d_M_ends_65 : decode b_M_ends 65 = .ok (.istore 4, 2) := by decide +kernel
theorem d_M_ends_67 : decode b_M_ends 67 = .ok (.iinc 5 1, 3) := by decide +kernel
theorem d_M_ends_70 : decode b_M_ends 70 = .ok (.goto (-62), 3) := by decide +kernel
theorem d_M_ends_73 : decode b_M_ends 73 = .ok (.iload_n 3, 1) := by decide +kernel
theorem d_M_ends_74 : decode b_M_ends 74 = .ok (.ifCond .ne 13, 3) := by decide +kernel
theorem d_M_ends_77 : decode b_M_ends 77 = .ok (.aload_n 0, 1) := by decide +kernel
theorem d_M_ends_78 : decode b_M_ends 78 = .ok (.iconst 5, 1) := by decide +kernel
theorem d_M_ends_79 : decode b_M_ends 79 = .ok (.aload_n 0, 1) := by decide +kernel
theorem d_M_ends_80 : decode b_M_ends 80 = .ok (.getfield 167, 3) := by decide +kernel
theorem d_M_ends_83 : decode b_M_ends 83 = .ok (.invokevirtual 205, 3) := by decide +kernel
theorem d_M_ends_86 : decode b_M_ends 86 = .ok (.return_, 1) := by decide +kernel
theorem d_M_ends_87 : decode b_M_ends 87 = .ok (.iload 4, 2) := by decide +kernel
theorem d_M_ends_89 : decode b_M_ends 89 = .ok (.ifCond .eq 12, 3) := by decide +kernel
theorem d_M_ends_92 : decode b_M_ends 92 = .ok (.aload_n 0, 1) := by decide +kernel
theorem d_M_ends_93 : decode b_M_ends 93 = .ok (.iload_n 1, 1) := by decide +kernel
theorem d_M_ends_94 : decode b_M_ends 94 = .ok (.iload_n 2, 1) := by decide +kernel
theorem d_M_ends_95 : decode b_M_ends 95 = .ok (.invokevirtual 253, 3) := by decide +kernel
theorem d_M_ends_98 : decode b_M_ends 98 = .ok (.ifCond .ne 107, 3) := by decide +kernel
theorem d_M_ends_101 : decode b_M_ends 101 = .ok (.aload_n 0, 1) := by decide +kernel
theorem d_M_ends_102 : decode b_M_ends 102 = .ok (.bipush 16, 2) := by decide +kernel
theorem d_M_ends_104 : decode b_M_ends 104 = .ok (.aload_n 0, 1) := by decide +kernel
theorem d_M_ends_105 : decode b_M_ends 105 = .ok (.getfield 167, 3) := by decide +kernel
theorem d_M_ends_108 : decode b_M_ends 108 = .ok (.invokevirtual 205, 3) := by decide +kernel
theorem d_M_ends_111 : decode b_M_ends 111 = .ok (.aload_n 0, 1) := by decide +kernel
theorem d_M_ends_112 : decode b_M_ends 112 = .ok (.iconst 0, 1) := by decide +kernel
theorem d_M_ends_113 : decode b_M_ends 113 = .ok (.putfield 192, 3) := by decide +kernel
theorem d_M_ends_116 : decode b_M_ends 116 = .ok (.iload_n 2, 1) := by decide +kernel
theorem d_M_ends_117 : decode b_M_ends 117 = .ok (.istore 5, 2) := by decide +kernel
theorem d_M_ends_119 : decode b_M_ends 119 = .ok (.aload_n 0, 1) := by decide +kernel
theorem d_M_ends_120 : decode b_M_ends 120 = .ok (.getfield 29, 3) := by decide +kernel
theorem d_M_ends_123 : decode b_M_ends 123 = .ok (.bipush 8, 2) := by decide +kernel
theorem d_M_ends_125 : decode b_M_ends 125 = .ok (.iload_n 1, 1) := by decide +kernel
theorem d_M_ends_126 : decode b_M_ends 126 = .ok (.imul, 1) := by decide +kernel
theorem d_M_ends_127 : decode b_M_ends 127 = .ok (.iload 5, 2) := by decide +kernel
theorem d_M_ends_129 : decode b_M_ends 129 = .ok (.iadd, 1) := by decide +kernel
theorem d_M_ends_130 : decode b_M_ends 130 = .ok (.iaload, 1) := by decide +kernel
theorem d_M_ends_131 : decode b_M_ends 131 = .ok (.invokestatic 137, 3) := by decide +kernel
theorem d_M_ends_134 : decode b_M_ends 134 = .ok (.ifCond .ne 55, 3) := by decide +kernel
theorem d_M_ends_137 : decode b_M_ends 137 = .ok (.aload_n 0, 1) := by decide +kernel
theorem d_M_ends_138 : decode b_M_ends 138 = .ok (.getfield 29, 3) := by decide +kernel
theorem d_M_ends_141 : decode b_M_ends 141 = .ok (.bipush 8, 2) := by decide +kernel
theorem d_M_ends_143 : decode b_M_ends 143 = .ok (.iload_n 1, 1) := by decide +kernel
theorem d_M_ends_144 : decode b_M_ends 144 = .ok (.imul, 1) := by decide +kernel
theorem d_M_ends_145 : decode b_M_ends 145 = .ok (.iload 5, 2) := by decide +kernel
theorem d_M_ends_147 : decode b_M_ends 147 = .ok (.iadd, 1) := by decide +kernel
theorem d_M_ends_148 : decode b_M_ends 148 = .ok (.iaload, 1) := by decide +kernel
theorem d_M_ends_149 : decode b_M_ends 149 = .ok (.ifCond .ne 34, 3) := by decide +kernel
theorem d_M_ends_152 : decode b_M_ends 152 = .ok (.aload_n 0, 1) := by decide +kernel
theorem d_M_ends_153 : decode b_M_ends 153 = .ok (.getfield 59, 3) := by decide +kernel
theorem d_M_ends_156 : decode b_M_ends 156 = .ok (.aload_n 0, 1) := by decide +kernel
theorem d_M_ends_157 : decode b_M_ends 157 = .ok (.getfield 195, 3) := by decide +kernel
theorem d_M_ends_160 : decode b_M_ends 160 = .ok (.aload_n 0, 1) := by decide +kernel
theorem d_M_ends_161 : decode b_M_ends 161 = .ok (.getfield 32, 3) := by decide +kernel
theorem d_M_ends_164 : decode b_M_ends 164 = .ok (.bipush 8, 2) := by decide +kernel
theorem d_M_ends_166 : decode b_M_ends 166 = .ok (.iload_n 1, 1) := by decide +kernel
theorem d_M_ends_167 : decode b_M_ends 167 = .ok (.imul, 1) := by decide +kernel
theorem d_M_ends_168 : decode b_M_ends 168 = .ok (.iload 5, 2) := by decide +kernel
theorem d_M_ends_170 : decode b_M_ends 170 = .ok (.iadd, 1) := by decide +kernel
theorem d_M_ends_171 : decode b_M_ends 171 = .ok (.iaload, 1) := by decide +kernel
theorem d_M_ends_172 : decode b_M_ends 172 = .ok (.iastore, 1) := by decide +kernel
theorem d_M_ends_173 : decode b_M_ends 173 = .ok (.aload_n 0, 1) := by decide +kernel
theorem d_M_ends_174 : decode b_M_ends 174 = .ok (.dup, 1) := by decide +kernel
theorem d_M_ends_175 : decode b_M_ends 175 = .ok (.getfield 195, 3) := by decide +kernel
theorem d_M_ends_178 : decode b_M_ends 178 = .ok (.iconst 1, 1) := by decide +kernel
theorem d_M_ends_179 : decode b_M_ends 179 = .ok (.iadd, 1) := by decide +kernel
theorem d_M_ends_180 : decode b_M_ends 180 = .ok (.putfield 195, 3) := by decide +kernel
theorem d_M_ends_183 : decode b_M_ends 183 = .ok (.iinc 5 1, 3) := by decide +kernel
theorem d_M_ends_186 : decode b_M_ends 186 = .ok (.goto (-67), 3) := by decide +kernel
theorem d_M_ends_189 : decode b_M_ends 189 = .ok (.aload_n 0, 1) := by decide +kernel
theorem d_M_ends_190 : decode b_M_ends 190 = .ok (.aload_n 0, 1) := by decide +kernel
theorem d_M_ends_191 : decode b_M_ends 191 = .ok (.getfield 29, 3) := by decide +kernel
theorem d_M_ends_194 : decode b_M_ends 194 = .ok (.bipush 8, 2) := by decide +kernel
theorem d_M_ends_196 : decode b_M_ends 196 = .ok (.iload_n 1, 1) := by decide +kernel
theorem d_M_ends_197 : decode b_M_ends 197 = .ok (.imul, 1) := by decide +kernel
theorem d_M_ends_198 : decode b_M_ends 198 = .ok (.iload 5, 2) := by decide +kernel
theorem d_M_ends_200 : decode b_M_ends 200 = .ok (.iadd, 1) := by decide +kernel
theorem d_M_ends_201 : decode b_M_ends 201 = .ok (.iaload, 1) := by decide +kernel
theorem d_M_ends_202 : decode b_M_ends 202 = .ok (.putfield 256, 3) := by decide +kernel
theorem d_M_ends_205 : decode b_M_ends 205 = .ok (.return_, 1) := by decide +kernel
theorem d_M_tries_0 : decode b_M_tries 0 = .ok (.aload_n 0, 1) := by decide +kernel
theorem d_M_tries_1 : decode b_M_tries 1 = .ok (.iconst 0, 1) := by decide +kernel
theorem d_M_tries_2 : decode b_M_tries 2 = .ok (.putfield 180, 3) := by decide +kernel
theorem d_M_tries_5 : decode b_M_tries 5 = .ok (.aload_n 0, 1) := by decide +kernel
theorem d_M_tries_6 : decode b_M_tries 6 = .ok (.iconst (-1), 1) := by decide +kernel
theorem d_M_tries_7 : decode b_M_tries 7 = .ok (.putfield 183, 3) := by decide +kernel
theorem d_M_tries_10 : decode b_M_tries 10 = .ok (.aload_n 0, 1) := by decide +kernel
theorem d_M_tries_11 : decode b_M_tries 11 = .ok (.iconst 0, 1) := by decide +kernel
theorem d_M_tries_12 : decode b_M_tries 12 = .ok (.putfield 192, 3) := by decide +kernel
theorem d_M_tries_15 : decode b_M_tries 15 = .ok (.aload_n 0, 1) := by decide +kernel
theorem d_M_tries_16 : decode b_M_tries 16 = .ok (.iconst 0, 1) := by decide +kernel
theorem d_M_tries_17 : decode b_M_tries 17 = .ok (.putfield 195, 3) := by decide +kernel
theorem d_M_tries_20 : decode b_M_tries 20 = .ok (.aload_n 0, 1) := by decide +kernel
theorem d_M_tries_21 : decode b_M_tries 21 = .ok (.iconst 0, 1) := by decide +kernel
theorem d_M_tries_22 : decode b_M_tries 22 = .ok (.putfield 186, 3) := by decide +kernel
theorem d_M_tries_25 : decode b_M_tries 25 = .ok (.iconst 1, 1) := by decide +kernel
theorem d_M_tries_26 : decode b_M_tries 26 = .ok (.istore_n 2, 1) := by decide +kernel
theorem d_M_tries_27 : decode b_M_tries 27 = .ok (.iconst 0, 1) := by decide +kernel
theorem d_M_tries_28 : decode b_M_tries 28 = .ok (.istore_n 3, 1) := by decide +kernel
theorem d_M_tries_29 : decode b_M_tries 29 = .ok (.iconst 0, 1) := by decide +kernel
theorem d_M_tries_30 : decode b_M_tries 30 = .ok (.istore 4, 2) := by decide +kernel
theorem d_M_tries_32 : decode b_M_tries 32 = .ok (.iload_n 3, 1) := by decide +kernel
theorem d_M_tries_33 : decode b_M_tries 33 = .ok (.aload_n 0, 1) := by decide +kernel
theorem d_M_tries_34 : decode b_M_tries 34 = .ok (.getfield 26, 3) := by decide +kernel
theorem d_M_tries_37 : decode b_M_tries 37 = .ok (.iload_n 1, 1) := by decide +kernel
theorem d_M_tries_38 : decode b_M_tries 38 = .ok (.iaload, 1) := by decide +kernel
theorem d_M_tries_39 : decode b_M_tries 39 = .ok (.if_icmp .ge 53, 3) := by decide +kernel
theorem d_M_tries_42 : decode b_M_tries 42 = .ok (.aload_n 0, 1) := by decide +kernel
theorem d_M_tries_43 : decode b_M_tries 43 = .ok (.getfield 180, 3) := by decide +kernel
theorem d_M_tries_46 : decode b_M_tries 46 = .ok (.ifCond .ne 46, 3) := by decide +kernel
theorem d_M_tries_49 : decode b_M_tries 49 = .ok (.iload 4, 2) := by decide +kernel
theorem d_M_tries_51 : decode b_M_tries 51 = .ok (.ifCond .ne 41, 3) := by decide +kernel
theorem d_M_tries_54 : decode b_M_tries 54 = .ok (.iload_n 2, 1) := by decide +kernel
theorem d_M_tries_55 : decode b_M_tries 55 = .ok (.aload_n 0, 1) := by decide +kernel
theorem d_M_tries_56 : decode b_M_tries 56 = .ok (.getfield 167, 3) := by decide +kernel
theorem d_M_tries_59 : decode b_M_tries 59 = .ok (.if_icmp .lt 15, 3) := by decide +kernel
theorem d_M_tries_62 : decode b_M_tries 62 = .ok (.aload_n 0, 1) := by decide +kernel
theorem d_M_tries_63 : decode b_M_tries 63 = .ok (.iload_n 1, 1) := by decide +kernel
theorem d_M_tries_64 : decode b_M_tries 64 = .ok (.iload_n 3, 1) := by decide +kernel
theorem d_M_tries_65 : decode b_M_tries 65 = .ok (.invokevirtual 198, 3) := by decide +kernel
theorem d_M_tries_68 : decode b_M_tries 68 = .ok (.iconst 1, 1) := by decide +kernel
theorem d_M_tries_69 : decode b_M_tries 69 = .ok (.istore 4, 2) := by decide +kernel
theorem d_M_tries_71 : decode b_M_tries 71 = .ok (.goto (-39), 3) := by decide +kernel
theorem d_M_tries_74 : decode b_M_tries 74 = .ok (.aload_n 0, 1) := by decide +kernel
theorem d_M_tries_75 : decode b_M_tries 75 = .ok (.iload_n 1, 1) := by decide +kernel
theorem d_M_tries_76 : decode b_M_tries 76 = .ok (.iload_n 3, 1) := by decide +kernel
theorem d_M_tries_77 : decode b_M_tries 77 = .ok (.iload_n 2, 1) := by decide +kernel
theorem d_M_tries_78 : decode b_M_tries 78 = .ok (.invokevirtual 201, 3) := by decide +kernel
theorem d_M_tries_81 : decode b_M_tries 81 = .ok (.istore_n 2, 1) := by decide +kernel
theorem d_M_tries_82 : decode b_M_tries 82 = .ok (.aload_n 0, 1) := by decide +kernel
theorem d_M_tries_83 : decode b_M_tries 83 = .ok (.iload_n 1, 1) := by decide +kernel
theorem d_M_tries_84 : decode b_M_tries 84 = .ok (.iload_n 3, 1) := by decide +kernel
theorem d_M_tries_85 : decode b_M_tries 85 = .ok (.invokevirtual 189, 3) := by decide +kernel
theorem d_M_tries_88 : decode b_M_tries 88 = .ok (.istore_n 3, 1) := by decide +kernel
theorem d_M_tries_89 : decode b_M_tries 89 = .ok (.goto (-57), 3) := by decide +kernel
theorem d_M_tries_92 : decode b_M_tries 92 = .ok (.aload_n 0, 1) := by decide +kernel
theorem d_M_tries_93 : decode b_M_tries 93 = .ok (.getfield 180, 3) := by decide +kernel
theorem d_M_tries_96 : decode b_M_tries 96 = .ok (.ifCond .ne 23, 3) := by decide +kernel
theorem d_M_tries_99 : decode b_M_tries 99 = .ok (.iload 4, 2) := by decide +kernel
theorem d_M_tries_101 : decode b_M_tries 101 = .ok (.ifCond .ne 18, 3) := by decide +kernel
theorem d_M_tries_104 : decode b_M_tries 104 = .ok (.iload_n 2, 1) := by decide +kernel
theorem d_M_tries_105 : decode b_M_tries 105 = .ok (.aload_n 0, 1) := by decide +kernel
theorem d_M_tries_106 : decode b_M_tries 106 = .ok (.getfield 167, 3) := by decide +kernel
theorem d_M_tries_109 : decode b_M_tries 109 = .ok (.if_icmp .ge 10, 3) := by decide +kernel
theorem d_M_tries_112 : decode b_M_tries 112 = .ok (.aload_n 0, 1) := by decide +kernel
theorem d_M_tries_113 : decode b_M_tries 113 = .ok (.bipush 6, 2) := by decide +kernel
theorem d_M_tries_115 : decode b_M_tries 115 = .ok (.iload_n 2, 1) := by decide +kernel
theorem d_M_tries_116 : decode b_M_tries 116 = .ok (.invokevirtual 205, 3) := by decide +kernel
theorem d_M_tries_119 : decode b_M_tries 119 = .ok (.aload_n 0, 1) := by decide +kernel
theorem d_M_tries_120 : decode b_M_tries 120 = .ok (.getfield 180, 3) := by decide +kernel
theorem d_M_tries_123 : decode b_M_tries 123 = .ok (.ifCond .ne 7, 3) := by decide +kernel
theorem d_M_tries_126 : decode b_M_tries 126 = .ok (.aload_n 0, 1) := by decide +kernel
theorem d_M_tries_127 : decode b_M_tries 127 = .ok (.invokevirtual 208, 3) := by decide +kernel
theorem d_M_tries_130 : decode b_M_tries 130 = .ok (.return_, 1) := by decide +kernel
theorem d_M_without_0 : decode b_M_without 0 = .ok (.aload_n 0, 1) := by decide +kernel
theorem d_M_without_1 : decode b_M_without 1 = .ok (.iconst 0, 1) := by decide +kernel
theorem d_M_without_2 : decode b_M_without 2 = .ok (.putfield 266, 3) := by decide +kernel
theorem d_M_without_5 : decode b_M_without 5 = .ok (.aload_n 0, 1) := by decide +kernel
theorem d_M_without_6 : decode b_M_without 6 = .ok (.iload_n 1, 1) := by decide +kernel
theorem d_M_without_7 : decode b_M_without 7 = .ok (.putfield 269, 3) := by decide +kernel
theorem d_M_without_10 : decode b_M_without 10 = .ok (.aload_n 0, 1) := by decide +kernel
theorem d_M_without_11 : decode b_M_without 11 = .ok (.iconst (-1), 1) := by decide +kernel
theorem d_M_without_12 : decode b_M_without 12 = .ok (.putfield 106, 3) := by decide +kernel
theorem d_M_without_15 : decode b_M_without 15 = .ok (.aload_n 0, 1) := by decide +kernel
theorem d_M_without_16 : decode b_M_without 16 = .ok (.iconst (-1), 1) := by decide +kernel
theorem d_M_without_17 : decode b_M_without 17 = .ok (.putfield 109, 3) := by decide +kernel
theorem d_M_without_20 : decode b_M_without 20 = .ok (.aload_n 0, 1) := by decide +kernel
theorem d_M_without_21 : decode b_M_without 21 = .ok (.iconst 0, 1) := by decide +kernel
theorem d_M_without_22 : decode b_M_without 22 = .ok (.putfield 157, 3) := by decide +kernel
theorem d_M_without_25 : decode b_M_without 25 = .ok (.iload_n 1, 1) := by decide +kernel
theorem d_M_without_26 : decode b_M_without 26 = .ok (.ineg, 1) := by decide +kernel
theorem d_M_without_27 : decode b_M_without 27 = .ok (.ireturn, 1) := by decide +kernel
theorem d_M_isTried_0 : decode b_M_isTried 0 = .ok (.aload_n 0, 1) := by decide +kernel
theorem d_M_isTried_1 : decode b_M_isTried 1 = .ok (.aload_n 0, 1) := by decide +kernel
theorem d_M_isTried_2 : decode b_M_isTried 2 = .ok (.getfield 84, 3) := by decide +kernel
theorem d_M_isTried_5 : decode b_M_isTried 5 = .ok (.aload_n 0, 1) := by decide +kernel
theorem d_M_isTried_6 : decode b_M_isTried 6 = .ok (.getfield 272, 3) := by decide +kernel
theorem d_M_isTried_9 : decode b_M_isTried 9 = .ok (.invokevirtual 275, 3) := by decide +kernel
theorem d_M_isTried_12 : decode b_M_isTried 12 = .ok (.aload_n 0, 1) := by decide +kernel
theorem d_M_isTried_13 : decode b_M_isTried 13 = .ok (.iconst 0, 1) := by decide +kernel
theorem d_M_isTried_14 : decode b_M_isTried 14 = .ok (.putfield 266, 3) := by decide +kernel
theorem d_M_isTried_17 : decode b_M_isTried 17 = .ok (.aload_n 0, 1) := by decide +kernel
theorem d_M_isTried_18 : decode b_M_isTried 18 = .ok (.aload_n 0, 1) := by decide +kernel
theorem d_M_isTried_19 : decode b_M_isTried 19 = .ok (.getfield 84, 3) := by decide +kernel
theorem d_M_isTried_22 : decode b_M_isTried 22 = .ok (.iconst 0, 1) := by decide +kernel
theorem d_M_isTried_23 : decode b_M_isTried 23 = .ok (.iaload, 1) := by decide +kernel
theorem d_M_isTried_24 : decode b_M_isTried 24 = .ok (.invokevirtual 123, 3) := by decide +kernel
theorem d_M_isTried_27 : decode b_M_isTried 27 = .ok (.istore_n 1, 1) := by decide +kernel
theorem d_M_isTried_28 : decode b_M_isTried 28 = .ok (.iconst (-1), 1) := by decide +kernel
theorem d_M_isTried_29 : decode b_M_isTried 29 = .ok (.istore_n 2, 1) := by decide +kernel
theorem d_M_isTried_30 : decode b_M_isTried 30 = .ok (.iconst 0, 1) := by decide +kernel
theorem d_M_isTried_31 : decode b_M_isTried 31 = .ok (.istore_n 3, 1) := by decide +kernel
theorem d_M_isTried_32 : decode b_M_isTried 32 = .ok (.iconst 0, 1) := by decide +kernel
theorem d_M_isTried_33 : decode b_M_isTried 33 = .ok (.istore 4, 2) := by decide +kernel
theorem d_M_isTried_35 : decode b_M_isTried 35 = .ok (.iconst 0, 1) := by decide +kernel
theorem d_M_isTried_36 : decode b_M_isTried 36 = .ok (.istore 5, 2) := by decide +kernel
theorem d_M_isTried_38 : decode b_M_isTried 38 = .ok (.iload 5, 2) := by decide +kernel
theorem d_M_isTried_40 : decode b_M_isTried 40 = .ok (.aload_n 0, 1) := by decide +kernel
theorem d_M_isTried_41 : decode b_M_isTried 41 = .ok (.getfield 134, 3) := by decide +kernel
theorem d_M_isTried_44 : decode b_M_isTried 44 = .ok (.if_icmp .ge 123, 3) := by decide +kernel
theorem d_M_isTried_47 : decode b_M_isTried 47 = .ok (.iload_n 1, 1) := by decide +kernel
theorem d_M_isTried_48 : decode b_M_isTried 48 = .ok (.iconst (-1), 1) := by decide +kernel
theorem d_M_isTried_49 : decode b_M_isTried 49 = .ok (.if_icmp .eq 118, 3) := by decide +kernel
theorem d_M_isTried_52 : decode b_M_isTried 52 = .ok (.iload 4, 2) := by decide +kernel
theorem d_M_isTried_54 : decode b_M_isTried 54 = .ok (.ifCond .ne 113, 3) := by decide +kernel
theorem d_M_isTried_57 : decode b_M_isTried 57 = .ok (.aload_n 0, 1) := by decide +kernel
theorem d_M_isTried_58 : decode b_M_isTried 58 = .ok (.getfield 16, 3) := by decide +kernel
theorem d_M_isTried_61 : decode b_M_isTried 61 = .ok (.iload 5, 2) := by decide +kernel
theorem d_M_isTried_63 : decode b_M_isTried 63 = .ok (.iaload, 1) := by decide +kernel
theorem d_M_isTried_64 : decode b_M_isTried 64 = .ok (.iload_n 1, 1) := by decide +kernel
theorem d_M_isTried_65 : decode b_M_isTried 65 = .ok (.if_icmp .ne 96, 3) := by decide +kernel
theorem d_M_isTried_68 : decode b_M_isTried 68 = .ok (.aload_n 0, 1) := by decide +kernel
theorem d_M_isTried_69 : decode b_M_isTried 69 = .ok (.iload 5, 2) := by decide +kernel
theorem d_M_isTried_71 : decode b_M_isTried 71 = .ok (.invokevirtual 279, 3) := by decide +kernel
theorem d_M_isTried_74 : decode b_M_isTried 74 = .ok (.aload_n 0, 1) := by decide +kernel
theorem d_M_isTried_75 : decode b_M_isTried 75 = .ok (.getfield 87, 3) := by decide +kernel
end
section
theorem d_M_isTried_78 : decode b_M_isTried 78 = .ok (.aload_n 0, 1) := by decide +kernel
theorem d_M_isTried_79 : decode b_M_isTried 79 = .ok (.getfield 266, 3) := by decide +kernel
theorem d_M_isTried_82 : decode b_M_isTried 82 = .ok (.iload 5, 2) := by decide +kernel
theorem d_M_isTried_84 : decode b_M_isTried 84 = .ok (.iastore, 1) := by decide +kernel
theorem d_M_isTried_85 : decode b_M_isTried 85 = .ok (.aload_n 0, 1) := by decide +kernel
theorem d_M_isTried_86 : decode b_M_isTried 86 = .ok (.getfield 90, 3) := by decide +kernel
theorem d_M_isTried_89 : decode b_M_isTried 89 = .ok (.aload_n 0, 1) := by decide +kernel
theorem d_M_isTried_90 : decode b_M_isTried 90 = .ok (.getfield 266, 3) := by decide +kernel
theorem d_M_isTried_93 : decode b_M_isTried 93 = .ok (.aload_n 0, 1) := by decide +kernel
theorem d_M_isTried_94 : decode b_M_isTried 94 = .ok (.getfield 180, 3) := by decide +kernel
theorem d_M_isTried_97 : decode b_M_isTried 97 = .ok (.iastore, 1) := by decide +kernel
theorem d_M_isTried_98 : decode b_M_isTried 98 = .ok (.aload_n 0, 1) := by decide +kernel
theorem d_M_isTried_99 : decode b_M_isTried 99 = .ok (.getfield 93, 3) := by decide +kernel
theorem d_M_isTried_102 : decode b_M_isTried 102 = .ok (.aload_n 0, 1) := by decide +kernel
theorem d_M_isTried_103 : decode b_M_isTried 103 = .ok (.getfield 266, 3) := by decide +kernel
theorem d_M_isTried_106 : decode b_M_isTried 106 = .ok (.aload_n 0, 1) := by decide +kernel
theorem d_M_isTried_107 : decode b_M_isTried 107 = .ok (.getfield 183, 3) := by decide +kernel
theorem d_M_isTried_110 : decode b_M_isTried 110 = .ok (.iastore, 1) := by decide +kernel
theorem d_M_isTried_111 : decode b_M_isTried 111 = .ok (.aload_n 0, 1) := by decide +kernel
theorem d_M_isTried_112 : decode b_M_isTried 112 = .ok (.dup, 1) := by decide +kernel
theorem d_M_isTried_113 : decode b_M_isTried 113 = .ok (.getfield 266, 3) := by decide +kernel
theorem d_M_isTried_116 : decode b_M_isTried 116 = .ok (.iconst 1, 1) := by decide +kernel
theorem d_M_isTried_117 : decode b_M_isTried 117 = .ok (.iadd, 1) := by decide +kernel
theorem d_M_isTried_118 : decode b_M_isTried 118 = .ok (.putfield 266, 3) := by decide +kernel
theorem d_M_isTried_121 : decode b_M_isTried 121 = .ok (.aload_n 0, 1) := by decide +kernel
theorem d_M_isTried_122 : decode b_M_isTried 122 = .ok (.getfield 180, 3) := by decide +kernel
theorem d_M_isTried_125 : decode b_M_isTried 125 = .ok (.ifCond .ne 7, 3) := by decide +kernel
theorem d_M_isTried_128 : decode b_M_isTried 128 = .ok (.iconst 1, 1) := by decide +kernel
theorem d_M_isTried_129 : decode b_M_isTried 129 = .ok (.goto 4, 3) := by decide +kernel
theorem d_M_isTried_132 : decode b_M_isTried 132 = .ok (.iconst 0, 1) := by decide +kernel
theorem d_M_isTried_133 : decode b_M_isTried 133 = .ok (.istore 4, 2) := by decide +kernel
theorem d_M_isTried_135 : decode b_M_isTried 135 = .ok (.iload 4, 2) := by decide +kernel
theorem d_M_isTried_137 : decode b_M_isTried 137 = .ok (.ifCond .ne 16, 3) := by decide +kernel
theorem d_M_isTried_140 : decode b_M_isTried 140 = .ok (.iload_n 2, 1) := by decide +kernel
theorem d_M_isTried_141 : decode b_M_isTried 141 = .ok (.iconst (-1), 1) := by decide +kernel
theorem d_M_isTried_142 : decode b_M_isTried 142 = .ok (.if_icmp .eq 11, 3) := by decide +kernel
theorem d_M_isTried_145 : decode b_M_isTried 145 = .ok (.aload_n 0, 1) := by decide +kernel
theorem d_M_isTried_146 : decode b_M_isTried 146 = .ok (.getfield 180, 3) := by decide +kernel
theorem d_M_isTried_149 : decode b_M_isTried 149 = .ok (.iload_n 3, 1) := by decide +kernel
theorem d_M_isTried_150 : decode b_M_isTried 150 = .ok (.if_icmp .le 11, 3) := by decide +kernel
theorem d_M_isTried_153 : decode b_M_isTried 153 = .ok (.iload 5, 2) := by decide +kernel
theorem d_M_isTried_155 : decode b_M_isTried 155 = .ok (.istore_n 2, 1) := by decide +kernel
theorem d_M_isTried_156 : decode b_M_isTried 156 = .ok (.aload_n 0, 1) := by decide +kernel
theorem d_M_isTried_157 : decode b_M_isTried 157 = .ok (.getfield 180, 3) := by decide +kernel
theorem d_M_isTried_160 : decode b_M_isTried 160 = .ok (.istore_n 3, 1) := by decide +kernel
theorem d_M_isTried_161 : decode b_M_isTried 161 = .ok (.iinc 5 1, 3) := by decide +kernel
theorem d_M_isTried_164 : decode b_M_isTried 164 = .ok (.goto (-126), 3) := by decide +kernel
theorem d_M_isTried_167 : decode b_M_isTried 167 = .ok (.iload_n 2, 1) := by decide +kernel
theorem d_M_isTried_168 : decode b_M_isTried 168 = .ok (.iconst (-1), 1) := by decide +kernel
theorem d_M_isTried_169 : decode b_M_isTried 169 = .ok (.if_icmp .ne 18, 3) := by decide +kernel
theorem d_M_isTried_172 : decode b_M_isTried 172 = .ok (.aload_n 0, 1) := by decide +kernel
theorem d_M_isTried_173 : decode b_M_isTried 173 = .ok (.iconst 2, 1) := by decide +kernel
theorem d_M_isTried_174 : decode b_M_isTried 174 = .ok (.invokevirtual 283, 3) := by decide +kernel
theorem d_M_isTried_177 : decode b_M_isTried 177 = .ok (.istore 5, 2) := by decide +kernel
theorem d_M_isTried_179 : decode b_M_isTried 179 = .ok (.aload_n 0, 1) := by decide +kernel
theorem d_M_isTried_180 : decode b_M_isTried 180 = .ok (.iconst 0, 1) := by decide +kernel
theorem d_M_isTried_181 : decode b_M_isTried 181 = .ok (.putfield 106, 3) := by decide +kernel
theorem d_M_isTried_184 : decode b_M_isTried 184 = .ok (.iload 5, 2) := by decide +kernel
theorem d_M_isTried_186 : decode b_M_isTried 186 = .ok (.ireturn, 1) := by decide +kernel
theorem d_M_isTried_187 : decode b_M_isTried 187 = .ok (.aload_n 0, 1) := by decide +kernel
theorem d_M_isTried_188 : decode b_M_isTried 188 = .ok (.iload_n 2, 1) := by decide +kernel
theorem d_M_isTried_189 : decode b_M_isTried 189 = .ok (.invokevirtual 279, 3) := by decide +kernel
theorem d_M_isTried_192 : decode b_M_isTried 192 = .ok (.aload_n 0, 1) := by decide +kernel
theorem d_M_isTried_193 : decode b_M_isTried 193 = .ok (.aload_n 0, 1) := by decide +kernel
theorem d_M_isTried_194 : decode b_M_isTried 194 = .ok (.getfield 180, 3) := by decide +kernel
theorem d_M_isTried_197 : decode b_M_isTried 197 = .ok (.putfield 269, 3) := by decide +kernel
theorem d_M_isTried_200 : decode b_M_isTried 200 = .ok (.aload_n 0, 1) := by decide +kernel
theorem d_M_isTried_201 : decode b_M_isTried 201 = .ok (.aload_n 0, 1) := by decide +kernel
theorem d_M_isTried_202 : decode b_M_isTried 202 = .ok (.getfield 183, 3) := by decide +kernel
theorem d_M_isTried_205 : decode b_M_isTried 205 = .ok (.putfield 106, 3) := by decide +kernel
theorem d_M_isTried_208 : decode b_M_isTried 208 = .ok (.aload_n 0, 1) := by decide +kernel
theorem d_M_isTried_209 : decode b_M_isTried 209 = .ok (.iload_n 2, 1) := by decide +kernel
theorem d_M_isTried_210 : decode b_M_isTried 210 = .ok (.putfield 109, 3) := by decide +kernel
theorem d_M_isTried_213 : decode b_M_isTried 213 = .ok (.iload 4, 2) := by decide +kernel
theorem d_M_isTried_215 : decode b_M_isTried 215 = .ok (.ifCond .eq 63, 3) := by decide +kernel
theorem d_M_isTried_218 : decode b_M_isTried 218 = .ok (.aload_n 0, 1) := by decide +kernel
theorem d_M_isTried_219 : decode b_M_isTried 219 = .ok (.iconst 1, 1) := by decide +kernel
theorem d_M_isTried_220 : decode b_M_isTried 220 = .ok (.putfield 286, 3) := by decide +kernel
theorem d_M_isTried_223 : decode b_M_isTried 223 = .ok (.aload_n 0, 1) := by decide +kernel
theorem d_M_isTried_224 : decode b_M_isTried 224 = .ok (.aload_n 0, 1) := by decide +kernel
theorem d_M_isTried_225 : decode b_M_isTried 225 = .ok (.getfield 272, 3) := by decide +kernel
theorem d_M_isTried_228 : decode b_M_isTried 228 = .ok (.putfield 99, 3) := by decide +kernel
theorem d_M_isTried_231 : decode b_M_isTried 231 = .ok (.aload_n 0, 1) := by decide +kernel
theorem d_M_isTried_232 : decode b_M_isTried 232 = .ok (.aload_n 0, 1) := by decide +kernel
theorem d_M_isTried_233 : decode b_M_isTried 233 = .ok (.getfield 103, 3) := by decide +kernel
theorem d_M_isTried_236 : decode b_M_isTried 236 = .ok (.putfield 290, 3) := by decide +kernel
theorem d_M_isTried_239 : decode b_M_isTried 239 = .ok (.iconst 0, 1) := by decide +kernel
theorem d_M_isTried_240 : decode b_M_isTried 240 = .ok (.istore 5, 2) := by decide +kernel
theorem d_M_isTried_242 : decode b_M_isTried 242 = .ok (.iload 5, 2) := by decide +kernel
theorem d_M_isTried_244 : decode b_M_isTried 244 = .ok (.aload_n 0, 1) := by decide +kernel
theorem d_M_isTried_245 : decode b_M_isTried 245 = .ok (.getfield 272, 3) := by decide +kernel
theorem d_M_isTried_248 : decode b_M_isTried 248 = .ok (.if_icmp .ge 23, 3) := by decide +kernel
theorem d_M_isTried_251 : decode b_M_isTried 251 = .ok (.aload_n 0, 1) := by decide +kernel
theorem d_M_isTried_252 : decode b_M_isTried 252 = .ok (.getfield 96, 3) := by decide +kernel
theorem d_M_isTried_255 : decode b_M_isTried 255 = .ok (.iload 5, 2) := by decide +kernel
theorem d_M_isTried_257 : decode b_M_isTried 257 = .ok (.aload_n 0, 1) := by decide +kernel
theorem d_M_isTried_258 : decode b_M_isTried 258 = .ok (.getfield 84, 3) := by decide +kernel
theorem d_M_isTried_261 : decode b_M_isTried 261 = .ok (.iload 5, 2) := by decide +kernel
theorem d_M_isTried_263 : decode b_M_isTried 263 = .ok (.iaload, 1) := by decide +kernel
theorem d_M_isTried_264 : decode b_M_isTried 264 = .ok (.iastore, 1) := by decide +kernel
theorem d_M_isTried_265 : decode b_M_isTried 265 = .ok (.iinc 5 1, 3) := by decide +kernel
theorem d_M_isTried_268 : decode b_M_isTried 268 = .ok (.goto (-26), 3) := by decide +kernel
theorem d_M_isTried_271 : decode b_M_isTried 271 = .ok (.aload_n 0, 1) := by decide +kernel
theorem d_M_isTried_272 : decode b_M_isTried 272 = .ok (.getfield 19, 3) := by decide +kernel
theorem d_M_isTried_275 : decode b_M_isTried 275 = .ok (.iload_n 2, 1) := by decide +kernel
theorem d_M_isTried_276 : decode b_M_isTried 276 = .ok (.iaload, 1) := by decide +kernel
theorem d_M_isTried_277 : decode b_M_isTried 277 = .ok (.ireturn, 1) := by decide +kernel
theorem d_M_isTried_278 : decode b_M_isTried 278 = .ok (.aload_n 0, 1) := by decide +kernel
theorem d_M_isTried_279 : decode b_M_isTried 279 = .ok (.getfield 180, 3) := by decide +kernel
theorem d_M_isTried_282 : decode b_M_isTried 282 = .ok (.bipush 15, 2) := by decide +kernel
theorem d_M_isTried_284 : decode b_M_isTried 284 = .ok (.if_icmp .ge 14, 3) := by decide +kernel
theorem d_M_isTried_287 : decode b_M_isTried 287 = .ok (.aload_n 0, 1) := by decide +kernel
theorem d_M_isTried_288 : decode b_M_isTried 288 = .ok (.iconst 0, 1) := by decide +kernel
theorem d_M_isTried_289 : decode b_M_isTried 289 = .ok (.putfield 157, 3) := by decide +kernel
theorem d_M_isTried_292 : decode b_M_isTried 292 = .ok (.aload_n 0, 1) := by decide +kernel
theorem d_M_isTried_293 : decode b_M_isTried 293 = .ok (.getfield 180, 3) := by decide +kernel
theorem d_M_isTried_296 : decode b_M_isTried 296 = .ok (.ineg, 1) := by decide +kernel
theorem d_M_isTried_297 : decode b_M_isTried 297 = .ok (.ireturn, 1) := by decide +kernel
theorem d_M_isTried_298 : decode b_M_isTried 298 = .ok (.aload_n 0, 1) := by decide +kernel
theorem d_M_isTried_299 : decode b_M_isTried 299 = .ok (.aload_n 0, 1) := by decide +kernel
theorem d_M_isTried_300 : decode b_M_isTried 300 = .ok (.getfield 180, 3) := by decide +kernel
theorem d_M_isTried_303 : decode b_M_isTried 303 = .ok (.putfield 293, 3) := by decide +kernel
theorem d_M_isTried_306 : decode b_M_isTried 306 = .ok (.iconst 0, 1) := by decide +kernel
theorem d_M_isTried_307 : decode b_M_isTried 307 = .ok (.ireturn, 1) := by decide +kernel
theorem d_M_parse_0 : decode b_M_parse 0 = .ok (.aload_n 0, 1) := by decide +kernel
theorem d_M_parse_1 : decode b_M_parse 1 = .ok (.getfield 296, 3) := by decide +kernel
theorem d_M_parse_4 : decode b_M_parse 4 = .ok (.istore_n 1, 1) := by decide +kernel
theorem d_M_parse_5 : decode b_M_parse 5 = .ok (.aload_n 0, 1) := by decide +kernel
theorem d_M_parse_6 : decode b_M_parse 6 = .ok (.getfield 103, 3) := by decide +kernel
theorem d_M_parse_9 : decode b_M_parse 9 = .ok (.istore_n 2, 1) := by decide +kernel
theorem d_M_parse_10 : decode b_M_parse 10 = .ok (.aload_n 0, 1) := by decide +kernel
theorem d_M_parse_11 : decode b_M_parse 11 = .ok (.invokevirtual 302, 3) := by decide +kernel
theorem d_M_parse_14 : decode b_M_parse 14 = .ok (.iconst 0, 1) := by decide +kernel
theorem d_M_parse_15 : decode b_M_parse 15 = .ok (.istore_n 3, 1) := by decide +kernel
theorem d_M_parse_16 : decode b_M_parse 16 = .ok (.iload_n 3, 1) := by decide +kernel
theorem d_M_parse_17 : decode b_M_parse 17 = .ok (.aload_n 0, 1) := by decide +kernel
theorem d_M_parse_18 : decode b_M_parse 18 = .ok (.getfield 157, 3) := by decide +kernel
theorem d_M_parse_21 : decode b_M_parse 21 = .ok (.if_icmp .ge 66, 3) := by decide +kernel
theorem d_M_parse_24 : decode b_M_parse 24 = .ok (.aload_n 0, 1) := by decide +kernel
theorem d_M_parse_25 : decode b_M_parse 25 = .ok (.getfield 53, 3) := by decide +kernel
theorem d_M_parse_28 : decode b_M_parse 28 = .ok (.iload_n 3, 1) := by decide +kernel
theorem d_M_parse_29 : decode b_M_parse 29 = .ok (.iaload, 1) := by decide +kernel
theorem d_M_parse_30 : decode b_M_parse 30 = .ok (.iconst 2, 1) := by decide +kernel
theorem d_M_parse_31 : decode b_M_parse 31 = .ok (.if_icmp .eq 56, 3) := by decide +kernel
theorem d_M_parse_34 : decode b_M_parse 34 = .ok (.aload_n 0, 1) := by decide +kernel
theorem d_M_parse_35 : decode b_M_parse 35 = .ok (.getfield 53, 3) := by decide +kernel
theorem d_M_parse_38 : decode b_M_parse 38 = .ok (.iload_n 3, 1) := by decide +kernel
theorem d_M_parse_39 : decode b_M_parse 39 = .ok (.iaload, 1) := by decide +kernel
theorem d_M_parse_40 : decode b_M_parse 40 = .ok (.iconst 1, 1) := by decide +kernel
theorem d_M_parse_41 : decode b_M_parse 41 = .ok (.if_icmp .eq 14, 3) := by decide +kernel
theorem d_M_parse_44 : decode b_M_parse 44 = .ok (.aload_n 0, 1) := by decide +kernel
theorem d_M_parse_45 : decode b_M_parse 45 = .ok (.getfield 53, 3) := by decide +kernel
theorem d_M_parse_48 : decode b_M_parse 48 = .ok (.iload_n 3, 1) := by decide +kernel
theorem d_M_parse_49 : decode b_M_parse 49 = .ok (.iaload, 1) := by decide +kernel
theorem d_M_parse_50 : decode b_M_parse 50 = .ok (.bipush 7, 2) := by decide +kernel
theorem d_M_parse_52 : decode b_M_parse 52 = .ok (.if_icmp .ne 29, 3) := by decide +kernel
theorem d_M_parse_55 : decode b_M_parse 55 = .ok (.iload_n 3, 1) := by decide +kernel
theorem d_M_parse_56 : decode b_M_parse 56 = .ok (.iconst 1, 1) := by decide +kernel
theorem d_M_parse_57 : decode b_M_parse 57 = .ok (.iadd, 1) := by decide +kernel
theorem d_M_parse_58 : decode b_M_parse 58 = .ok (.aload_n 0, 1) := by decide +kernel
theorem d_M_parse_59 : decode b_M_parse 59 = .ok (.getfield 157, 3) := by decide +kernel
theorem d_M_parse_62 : decode b_M_parse 62 = .ok (.if_icmp .ge 19, 3) := by decide +kernel
theorem d_M_parse_65 : decode b_M_parse 65 = .ok (.aload_n 0, 1) := by decide +kernel
theorem d_M_parse_66 : decode b_M_parse 66 = .ok (.aload_n 0, 1) := by decide +kernel
theorem d_M_parse_67 : decode b_M_parse 67 = .ok (.getfield 53, 3) := by decide +kernel
theorem d_M_parse_70 : decode b_M_parse 70 = .ok (.iload_n 3, 1) := by decide +kernel
theorem d_M_parse_71 : decode b_M_parse 71 = .ok (.iconst 1, 1) := by decide +kernel
theorem d_M_parse_72 : decode b_M_parse 72 = .ok (.iadd, 1) := by decide +kernel
theorem d_M_parse_73 : decode b_M_parse 73 = .ok (.iaload, 1) := by decide +kernel
theorem d_M_parse_74 : decode b_M_parse 74 = .ok (.invokevirtual 123, 3) := by decide +kernel
theorem d_M_parse_77 : decode b_M_parse 77 = .ok (.iconst (-1), 1) := by decide +kernel
theorem d_M_parse_78 : decode b_M_parse 78 = .ok (.if_icmp .ne 9, 3) := by decide +kernel
theorem d_M_parse_81 : decode b_M_parse 81 = .ok (.iinc 3 1, 3) := by decide +kernel
theorem d_M_parse_84 : decode b_M_parse 84 = .ok (.goto (-68), 3) := by decide +kernel
theorem d_M_parse_87 : decode b_M_parse 87 = .ok (.iload_n 3, 1) := by decide +kernel
theorem d_M_parse_88 : decode b_M_parse 88 = .ok (.iconst 2, 1) := by decide +kernel
theorem d_M_parse_89 : decode b_M_parse 89 = .ok (.if_icmp .ne 18, 3) := by decide +kernel
theorem d_M_parse_92 : decode b_M_parse 92 = .ok (.aload_n 0, 1) := by decide +kernel
theorem d_M_parse_93 : decode b_M_parse 93 = .ok (.getfield 53, 3) := by decide +kernel
theorem d_M_parse_96 : decode b_M_parse 96 = .ok (.iconst 0, 1) := by decide +kernel
theorem d_M_parse_97 : decode b_M_parse 97 = .ok (.iaload, 1) := by decide +kernel
theorem d_M_parse_98 : decode b_M_parse 98 = .ok (.bipush 6, 2) := by decide +kernel
theorem d_M_parse_100 : decode b_M_parse 100 = .ok (.if_icmp .ne 7, 3) := by decide +kernel
theorem d_M_parse_103 : decode b_M_parse 103 = .ok (.iconst 1, 1) := by decide +kernel
theorem d_M_parse_104 : decode b_M_parse 104 = .ok (.goto 4, 3) := by decide +kernel
theorem d_M_parse_107 : decode b_M_parse 107 = .ok (.iconst 0, 1) := by decide +kernel
theorem d_M_parse_108 : decode b_M_parse 108 = .ok (.istore 4, 2) := by decide +kernel
theorem d_M_parse_110 : decode b_M_parse 110 = .ok (.iload 4, 2) := by decide +kernel
theorem d_M_parse_112 : decode b_M_parse 112 = .ok (.ifCond .eq 12, 3) := by decide +kernel
theorem d_M_parse_115 : decode b_M_parse 115 = .ok (.aload_n 0, 1) := by decide +kernel
theorem d_M_parse_116 : decode b_M_parse 116 = .ok (.getfield 53, 3) := by decide +kernel
theorem d_M_parse_119 : decode b_M_parse 119 = .ok (.iconst 1, 1) := by decide +kernel
theorem d_M_parse_120 : decode b_M_parse 120 = .ok (.iaload, 1) := by decide +kernel
theorem d_M_parse_121 : decode b_M_parse 121 = .ok (.goto 4, 3) := by decide +kernel
theorem d_M_parse_124 : decode b_M_parse 124 = .ok (.iconst 0, 1) := by decide +kernel
theorem d_M_parse_125 : decode b_M_parse 125 = .ok (.istore 5, 2) := by decide +kernel
theorem d_M_parse_127 : decode b_M_parse 127 = .ok (.iload_n 1, 1) := by decide +kernel
theorem d_M_parse_128 : decode b_M_parse 128 = .ok (.ifCond .eq 55, 3) := by decide +kernel
theorem d_M_parse_131 : decode b_M_parse 131 = .ok (.aload_n 0, 1) := by decide +kernel
theorem d_M_parse_132 : decode b_M_parse 132 = .ok (.getfield 269, 3) := by decide +kernel
theorem d_M_parse_135 : decode b_M_parse 135 = .ok (.ifCond .eq 48, 3) := by decide +kernel
theorem d_M_parse_138 : decode b_M_parse 138 = .ok (.aload_n 0, 1) := by decide +kernel
theorem d_M_parse_139 : decode b_M_parse 139 = .ok (.getfield 269, 3) := by decide +kernel
theorem d_M_parse_142 : decode b_M_parse 142 = .ok (.iconst 1, 1) := by decide +kernel
theorem d_M_parse_143 : decode b_M_parse 143 = .ok (.if_icmp .eq 40, 3) := by decide +kernel
theorem d_M_parse_146 : decode b_M_parse 146 = .ok (.aload_n 0, 1) := by decide +kernel
theorem d_M_parse_147 : decode b_M_parse 147 = .ok (.getfield 269, 3) := by decide +kernel
theorem d_M_parse_150 : decode b_M_parse 150 = .ok (.iconst 3, 1) := by decide +kernel
theorem d_M_parse_151 : decode b_M_parse 151 = .ok (.if_icmp .eq 32, 3) := by decide +kernel
theorem d_M_parse_154 : decode b_M_parse 154 = .ok (.aload_n 0, 1) := by decide +kernel
theorem d_M_parse_155 : decode b_M_parse 155 = .ok (.getfield 269, 3) := by decide +kernel
theorem d_M_parse_158 : decode b_M_parse 158 = .ok (.iconst 4, 1) := by decide +kernel
theorem d_M_parse_159 : decode b_M_parse 159 = .ok (.if_icmp .eq 24, 3) := by decide +kernel
theorem d_M_parse_162 : decode b_M_parse 162 = .ok (.aload_n 0, 1) := by decide +kernel
theorem d_M_parse_163 : decode b_M_parse 163 = .ok (.getfield 106, 3) := by decide +kernel
theorem d_M_parse_166 : decode b_M_parse 166 = .ok (.iconst 0, 1) := by decide +kernel
theorem d_M_parse_167 : decode b_M_parse 167 = .ok (.aload_n 0, 1) := by decide +kernel
theorem d_M_parse_168 : decode b_M_parse 168 = .ok (.getfield 272, 3) := by decide +kernel
theorem d_M_parse_171 : decode b_M_parse 171 = .ok (.iconst 1, 1) := by decide +kernel
theorem d_M_parse_172 : decode b_M_parse 172 = .ok (.isub, 1) := by decide +kernel
theorem d_M_parse_173 : decode b_M_parse 173 = .ok (.invokestatic 112, 3) := by decide +kernel
theorem d_M_parse_176 : decode b_M_parse 176 = .ok (.ifCond .eq 7, 3) := by decide +kernel
theorem d_M_parse_179 : decode b_M_parse 179 = .ok (.iconst 1, 1) := by decide +kernel
theorem d_M_parse_180 : decode b_M_parse 180 = .ok (.goto 4, 3) := by decide +kernel
theorem d_M_parse_183 : decode b_M_parse 183 = .ok (.iconst 0, 1) := by decide +kernel
theorem d_M_parse_184 : decode b_M_parse 184 = .ok (.istore 6, 2) := by decide +kernel
theorem d_M_parse_186 : decode b_M_parse 186 = .ok (.aload_n 0, 1) := by decide +kernel
theorem d_M_parse_187 : decode b_M_parse 187 = .ok (.invokevirtual 305, 3) := by decide +kernel
theorem d_M_parse_190 : decode b_M_parse 190 = .ok (.iload 4, 2) := by decide +kernel
theorem d_M_parse_192 : decode b_M_parse 192 = .ok (.ifCond .eq 48, 3) := by decide +kernel
theorem d_M_parse_195 : decode b_M_parse 195 = .ok (.iload 6, 2) := by decide +kernel
theorem d_M_parse_197 : decode b_M_parse 197 = .ok (.ifCond .eq 43, 3) := by decide +kernel
theorem d_M_parse_200 : decode b_M_parse 200 = .ok (.aload_n 0, 1) := by decide +kernel
theorem d_M_parse_201 : decode b_M_parse 201 = .ok (.iload_n 3, 1) := by decide +kernel
theorem d_M_parse_202 : decode b_M_parse 202 = .ok (.aload_n 0, 1) := by decide +kernel
theorem d_M_parse_203 : decode b_M_parse 203 = .ok (.getfield 157, 3) := by decide +kernel
theorem d_M_parse_206 : decode b_M_parse 206 = .ok (.if_icmp .ge 9, 3) := by decide +kernel
theorem d_M_parse_209 : decode b_M_parse 209 = .ok (.iload_n 3, 1) := by decide +kernel
theorem d_M_parse_210 : decode b_M_parse 210 = .ok (.iconst 1, 1) := by decide +kernel
theorem d_M_parse_211 : decode b_M_parse 211 = .ok (.iadd, 1) := by decide +kernel
theorem d_M_parse_212 : decode b_M_parse 212 = .ok (.goto 4, 3) := by decide +kernel
theorem d_M_parse_215 : decode b_M_parse 215 = .ok (.iload_n 3, 1) := by decide +kernel
theorem d_M_parse_216 : decode b_M_parse 216 = .ok (.invokevirtual 299, 3) := by decide +kernel
theorem d_M_parse_219 : decode b_M_parse 219 = .ok (.aload_n 0, 1) := by decide +kernel
theorem d_M_parse_220 : decode b_M_parse 220 = .ok (.getfield 84, 3) := by decide +kernel
theorem d_M_parse_223 : decode b_M_parse 223 = .ok (.aload_n 0, 1) := by decide +kernel
theorem d_M_parse_224 : decode b_M_parse 224 = .ok (.getfield 106, 3) := by decide +kernel
theorem d_M_parse_227 : decode b_M_parse 227 = .ok (.iload 5, 2) := by decide +kernel
theorem d_M_parse_229 : decode b_M_parse 229 = .ok (.iastore, 1) := by decide +kernel
theorem d_M_parse_230 : decode b_M_parse 230 = .ok (.aload_n 0, 1) := by decide +kernel
theorem d_M_parse_231 : decode b_M_parse 231 = .ok (.iload_n 2, 1) := by decide +kernel
theorem d_M_parse_232 : decode b_M_parse 232 = .ok (.putfield 103, 3) := by decide +kernel
theorem d_M_parse_235 : decode b_M_parse 235 = .ok (.aload_n 0, 1) := by decide +kernel
theorem d_M_parse_236 : decode b_M_parse 236 = .ok (.invokevirtual 308, 3) := by decide +kernel
theorem d_M_parse_239 : decode b_M_parse 239 = .ok (.ireturn, 1) := by decide +kernel
theorem d_M_parse_240 : decode b_M_parse 240 = .ok (.iconst 0, 1) := by decide +kernel
theorem d_M_parse_241 : decode b_M_parse 241 = .ok (.istore 7, 2) := by decide +kernel
theorem d_M_parse_243 : decode b_M_parse 243 = .ok (.iload 7, 2) := by decide +kernel
theorem d_M_parse_245 : decode b_M_parse 245 = .ok (.iload_n 3, 1) := by decide +kernel
theorem d_M_parse_246 : decode b_M_parse 246 = .ok (.if_icmp .ge 23, 3) := by decide +kernel
theorem d_M_parse_249 : decode b_M_parse 249 = .ok (.aload_n 0, 1) := by decide +kernel
theorem d_M_parse_250 : decode b_M_parse 250 = .ok (.getfield 84, 3) := by decide +kernel
theorem d_M_parse_253 : decode b_M_parse 253 = .ok (.iload 7, 2) := by decide +kernel
theorem d_M_parse_255 : decode b_M_parse 255 = .ok (.aload_n 0, 1) := by decide +kernel
theorem d_M_parse_256 : decode b_M_parse 256 = .ok (.getfield 53, 3) := by decide +kernel
theorem d_M_parse_259 : decode b_M_parse 259 = .ok (.iload 7, 2) := by decide +kernel
theorem d_M_parse_261 : decode b_M_parse 261 = .ok (.iaload, 1) := by decide +kernel
theorem d_M_parse_262 : decode b_M_parse 262 = .ok (.iastore, 1) := by decide +kernel
theorem d_M_parse_263 : decode b_M_parse 263 = .ok (.iinc 7 1, 3) := by decide +kernel
theorem d_M_parse_266 : decode b_M_parse 266 = .ok (.goto (-23), 3) := by decide +kernel
theorem d_M_parse_269 : decode b_M_parse 269 = .ok (.aload_n 0, 1) := by decide +kernel
theorem d_M_parse_270 : decode b_M_parse 270 = .ok (.iload_n 3, 1) := by decide +kernel
theorem d_M_parse_271 : decode b_M_parse 271 = .ok (.putfield 272, 3) := by decide +kernel
theorem d_M_parse_274 : decode b_M_parse 274 = .ok (.aload_n 0, 1) := by decide +kernel
theorem d_M_parse_275 : decode b_M_parse 275 = .ok (.iload_n 3, 1) := by decide +kernel
theorem d_M_parse_276 : decode b_M_parse 276 = .ok (.aload_n 0, 1) := by decide +kernel
theorem d_M_parse_277 : decode b_M_parse 277 = .ok (.getfield 157, 3) := by decide +kernel
theorem d_M_parse_280 : decode b_M_parse 280 = .ok (.if_icmp .ge 9, 3) := by decide +kernel
theorem d_M_parse_283 : decode b_M_parse 283 = .ok (.iload_n 3, 1) := by decide +kernel
theorem d_M_parse_284 : decode b_M_parse 284 = .ok (.iconst 1, 1) := by decide +kernel
theorem d_M_parse_285 : decode b_M_parse 285 = .ok (.iadd, 1) := by decide +kernel
theorem d_M_parse_286 : decode b_M_parse 286 = .ok (.goto 4, 3) := by decide +kernel
theorem d_M_parse_289 : decode b_M_parse 289 = .ok (.iload_n 3, 1) := by decide +kernel
theorem d_M_parse_290 : decode b_M_parse 290 = .ok (.invokevirtual 299, 3) := by decide +kernel
theorem d_M_parse_293 : decode b_M_parse 293 = .ok (.iload_n 3, 1) := by decide +kernel
theorem d_M_parse_294 : decode b_M_parse 294 = .ok (.ifCond .ne 9, 3) := by decide +kernel
theorem d_M_parse_297 : decode b_M_parse 297 = .ok (.aload_n 0, 1) := by decide +kernel
theorem d_M_parse_298 : decode b_M_parse 298 = .ok (.iconst 1, 1) := by decide +kernel
theorem d_M_parse_299 : decode b_M_parse 299 = .ok (.invokevirtual 283, 3) := by decide +kernel
theorem d_M_parse_302 : decode b_M_parse 302 = .ok (.ireturn, 1) := by decide +kernel
theorem d_M_parse_303 : decode b_M_parse 303 = .ok (.iload 4, 2) := by decide +kernel
theorem d_M_parse_305 : decode b_M_parse 305 = .ok (.ifCond .eq 9, 3) := by decide +kernel
theorem d_M_parse_308 : decode b_M_parse 308 = .ok (.aload_n 0, 1) := by decide +kernel
theorem d_M_parse_309 : decode b_M_parse 309 = .ok (.iconst 4, 1) := by decide +kernel
theorem d_M_parse_310 : decode b_M_parse 310 = .ok (.invokevirtual 283, 3) := by decide +kernel
theorem d_M_parse_313 : decode b_M_parse 313 = .ok (.ireturn, 1) := by decide +kernel
theorem d_M_parse_314 : decode b_M_parse 314 = .ok (.iload_n 3, 1) := by decide +kernel
theorem d_M_parse_315 : decode b_M_parse 315 = .ok (.iconst 1, 1) := by decide +kernel
theorem d_M_parse_316 : decode b_M_parse 316 = .ok (.if_icmp .ne 75, 3) := by decide +kernel
theorem d_M_parse_319 : decode b_M_parse 319 = .ok (.aload_n 0, 1) := by decide +kernel
theorem d_M_parse_320 : decode b_M_parse 320 = .ok (.getfield 84, 3) := by decide +kernel
theorem d_M_parse_323 : decode b_M_parse 323 = .ok (.iconst 0, 1) := by decide +kernel
theorem d_M_parse_324 : decode b_M_parse 324 = .ok (.iaload, 1) := by decide +kernel
theorem d_M_parse_325 : decode b_M_parse 325 = .ok (.iconst 5, 1) := by decide +kernel
theorem d_M_parse_326 : decode b_M_parse 326 = .ok (.if_icmp .ne 65, 3) := by decide +kernel
theorem d_M_parse_329 : decode b_M_parse 329 = .ok (.aload_n 0, 1) := by decide +kernel
theorem d_M_parse_330 : decode b_M_parse 330 = .ok (.getfield 99, 3) := by decide +kernel
theorem d_M_parse_333 : decode b_M_parse 333 = .ok (.iconst (-1), 1) := by decide +kernel
theorem d_M_parse_334 : decode b_M_parse 334 = .ok (.if_icmp .ne 9, 3) := by decide +kernel
theorem d_M_parse_337 : decode b_M_parse 337 = .ok (.aload_n 0, 1) := by decide +kernel
theorem d_M_parse_338 : decode b_M_parse 338 = .ok (.iconst 3, 1) := by decide +kernel
theorem d_M_parse_339 : decode b_M_parse 339 = .ok (.invokevirtual 283, 3) := by decide +kernel
theorem d_M_parse_342 : decode b_M_parse 342 = .ok (.ireturn, 1) := by decide +kernel
theorem d_M_parse_343 : decode b_M_parse 343 = .ok (.aload_n 0, 1) := by decide +kernel
theorem d_M_parse_344 : decode b_M_parse 344 = .ok (.aload_n 0, 1) := by decide +kernel
theorem d_M_parse_345 : decode b_M_parse 345 = .ok (.getfield 99, 3) := by decide +kernel
theorem d_M_parse_348 : decode b_M_parse 348 = .ok (.putfield 272, 3) := by decide +kernel
theorem d_M_parse_351 : decode b_M_parse 351 = .ok (.aload_n 0, 1) := by decide +kernel
theorem d_M_parse_352 : decode b_M_parse 352 = .ok (.aload_n 0, 1) := by decide +kernel
theorem d_M_parse_353 : decode b_M_parse 353 = .ok (.getfield 290, 3) := by decide +kernel
theorem d_M_parse_356 : decode b_M_parse 356 = .ok (.putfield 103, 3) := by decide +kernel
theorem d_M_parse_359 : decode b_M_parse 359 = .ok (.iconst 0, 1) := by decide +kernel
theorem d_M_parse_360 : decode b_M_parse 360 = .ok (.istore 7, 2) := by decide +kernel
theorem d_M_parse_362 : decode b_M_parse 362 = .ok (.iload 7, 2) := by decide +kernel
theorem d_M_parse_364 : decode b_M_parse 364 = .ok (.aload_n 0, 1) := by decide +kernel
theorem d_M_parse_365 : decode b_M_parse 365 = .ok (.getfield 99, 3) := by decide +kernel
theorem d_M_parse_368 : decode b_M_parse 368 = .ok (.if_icmp .ge 23, 3) := by decide +kernel
theorem d_M_parse_371 : decode b_M_parse 371 = .ok (.aload_n 0, 1) := by decide +kernel
theorem d_M_parse_372 : decode b_M_parse 372 = .ok (.getfield 84, 3) := by decide +kernel
theorem d_M_parse_375 : decode b_M_parse 375 = .ok (.iload 7, 2) := by decide +kernel
theorem d_M_parse_377 : decode b_M_parse 377 = .ok (.aload_n 0, 1) := by decide +kernel
theorem d_M_parse_378 : decode b_M_parse 378 = .ok (.getfield 96, 3) := by decide +kernel
theorem d_M_parse_381 : decode b_M_parse 381 = .ok (.iload 7, 2) := by decide +kernel
theorem d_M_parse_383 : decode b_M_parse 383 = .ok (.iaload, 1) := by decide +kernel
theorem d_M_parse_384 : decode b_M_parse 384 = .ok (.iastore, 1) := by decide +kernel
theorem d_M_parse_385 : decode b_M_parse 385 = .ok (.iinc 7 1, 3) := by decide +kernel
theorem d_M_parse_388 : decode b_M_parse 388 = .ok (.goto (-26), 3) := by decide +kernel
theorem d_M_parse_391 : decode b_M_parse 391 = .ok (.aload_n 0, 1) := by decide +kernel
theorem d_M_parse_392 : decode b_M_parse 392 = .ok (.invokevirtual 308, 3) := by decide +kernel
theorem d_M_parse_395 : decode b_M_parse 395 = .ok (.ireturn, 1) := by decide +kernel
theorem d_M_comesIn_0 : decode b_M_comesIn 0 = .ok (.aload_n 0, 1) := by decide +kernel
theorem d_M_comesIn_1 : decode b_M_comesIn 1 = .ok (.getfield 272, 3) := by decide +kernel
theorem d_M_comesIn_4 : decode b_M_comesIn 4 = .ok (.istore_n 3, 1) := by decide +kernel
theorem d_M_comesIn_5 : decode b_M_comesIn 5 = .ok (.iload_n 3, 1) := by decide +kernel
theorem d_M_comesIn_6 : decode b_M_comesIn 6 = .ok (.iload_n 1, 1) := by decide +kernel
theorem d_M_comesIn_7 : decode b_M_comesIn 7 = .ok (.if_icmp .le 23, 3) := by decide +kernel
theorem d_M_comesIn_10 : decode b_M_comesIn 10 = .ok (.aload_n 0, 1) := by decide +kernel
theorem d_M_comesIn_11 : decode b_M_comesIn 11 = .ok (.getfield 84, 3) := by decide +kernel
theorem d_M_comesIn_14 : decode b_M_comesIn 14 = .ok (.iload_n 3, 1) := by decide +kernel
theorem d_M_comesIn_15 : decode b_M_comesIn 15 = .ok (.aload_n 0, 1) := by decide +kernel
theorem d_M_comesIn_16 : decode b_M_comesIn 16 = .ok (.getfield 84, 3) := by decide +kernel
theorem d_M_comesIn_19 : decode b_M_comesIn 19 = .ok (.iload_n 3, 1) := by decide +kernel
theorem d_M_comesIn_20 : decode b_M_comesIn 20 = .ok (.iconst 1, 1) := by decide +kernel
theorem d_M_comesIn_21 : decode b_M_comesIn 21 = .ok (.isub, 1) := by decide +kernel
theorem d_M_comesIn_22 : decode b_M_comesIn 22 = .ok (.iaload, 1) := by decide +kernel
theorem d_M_comesIn_23 : decode b_M_comesIn 23 = .ok (.iastore, 1) := by decide +kernel
theorem d_M_comesIn_24 : decode b_M_comesIn 24 = .ok (.iinc 3 (-1), 3) := by decide +kernel
theorem d_M_comesIn_27 : decode b_M_comesIn 27 = .ok (.goto (-22), 3) := by decide +kernel
theorem d_M_comesIn_30 : decode b_M_comesIn 30 = .ok (.aload_n 0, 1) := by decide +kernel
theorem d_M_comesIn_31 : decode b_M_comesIn 31 = .ok (.getfield 84, 3) := by decide +kernel
theorem d_M_comesIn_34 : decode b_M_comesIn 34 = .ok (.iload_n 1, 1) := by decide +kernel
theorem d_M_comesIn_35 : decode b_M_comesIn 35 = .ok (.iload_n 2, 1) := by decide +kernel
theorem d_M_comesIn_36 : decode b_M_comesIn 36 = .ok (.iastore, 1) := by decide +kernel
theorem d_M_comesIn_37 : decode b_M_comesIn 37 = .ok (.aload_n 0, 1) := by decide +kernel
theorem d_M_comesIn_38 : decode b_M_comesIn 38 = .ok (.dup, 1) := by decide +kernel
theorem d_M_comesIn_39 : decode b_M_comesIn 39 = .ok (.getfield 272, 3) := by decide +kernel
theorem d_M_comesIn_42 : decode b_M_comesIn 42 = .ok (.iconst 1, 1) := by decide +kernel
theorem d_M_comesIn_43 : decode b_M_comesIn 43 = .ok (.iadd, 1) := by decide +kernel
theorem d_M_comesIn_44 : decode b_M_comesIn 44 = .ok (.putfield 272, 3) := by decide +kernel
theorem d_M_comesIn_47 : decode b_M_comesIn 47 = .ok (.return_, 1) := by decide +kernel
theorem d_M_answer_0 : decode b_M_answer 0 = .ok (.iload_n 1, 1) := by decide +kernel
theorem d_M_answer_1 : decode b_M_answer 1 = .ok (.invokestatic 154, 3) := by decide +kernel
theorem d_M_answer_4 : decode b_M_answer 4 = .ok (.ifCond .ne 6, 3) := by decide +kernel
theorem d_M_answer_7 : decode b_M_answer 7 = .ok (.bipush (-102), 2) := by decide +kernel
theorem d_M_answer_9 : decode b_M_answer 9 = .ok (.ireturn, 1) := by decide +kernel
theorem d_M_answer_10 : decode b_M_answer 10 = .ok (.aload_n 0, 1) := by decide +kernel
theorem d_M_answer_11 : decode b_M_answer 11 = .ok (.getfield 293, 3) := by decide +kernel
theorem d_M_answer_14 : decode b_M_answer 14 = .ok (.ifCond .ne 6, 3) := by decide +kernel
theorem d_M_answer_17 : decode b_M_answer 17 = .ok (.bipush (-103), 2) := by decide +kernel
theorem d_M_answer_19 : decode b_M_answer 19 = .ok (.ireturn, 1) := by decide +kernel
theorem d_M_answer_20 : decode b_M_answer 20 = .ok (.aload_n 0, 1) := by decide +kernel
theorem d_M_answer_21 : decode b_M_answer 21 = .ok (.iload_n 1, 1) := by decide +kernel
theorem d_M_answer_22 : decode b_M_answer 22 = .ok (.invokevirtual 123, 3) := by decide +kernel
theorem d_M_answer_25 : decode b_M_answer 25 = .ok (.iconst (-1), 1) := by decide +kernel
theorem d_M_answer_26 : decode b_M_answer 26 = .ok (.if_icmp .eq 20, 3) := by decide +kernel
theorem d_M_answer_29 : decode b_M_answer 29 = .ok (.aload_n 0, 1) := by decide +kernel
theorem d_M_answer_30 : decode b_M_answer 30 = .ok (.getfield 53, 3) := by decide +kernel
theorem d_M_answer_33 : decode b_M_answer 33 = .ok (.iconst 0, 1) := by decide +kernel
theorem d_M_answer_34 : decode b_M_answer 34 = .ok (.iload_n 1, 1) := by decide +kernel
theorem d_M_answer_35 : decode b_M_answer 35 = .ok (.iastore, 1) := by decide +kernel
theorem d_M_answer_36 : decode b_M_answer 36 = .ok (.aload_n 0, 1) := by decide +kernel
theorem d_M_answer_37 : decode b_M_answer 37 = .ok (.iconst 1, 1) := by decide +kernel
theorem d_M_answer_38 : decode b_M_answer 38 = .ok (.putfield 157, 3) := by decide +kernel
theorem d_M_answer_41 : decode b_M_answer 41 = .ok (.aload_n 0, 1) := by decide +kernel
theorem d_M_answer_42 : decode b_M_answer 42 = .ok (.invokevirtual 312, 3) := by decide +kernel
theorem d_M_answer_45 : decode b_M_answer 45 = .ok (.ireturn, 1) := by decide +kernel
theorem d_M_answer_46 : decode b_M_answer 46 = .ok (.aload_n 0, 1) := by decide +kernel
theorem d_M_answer_47 : decode b_M_answer 47 = .ok (.getfield 293, 3) := by decide +kernel
theorem d_M_answer_50 : decode b_M_answer 50 = .ok (.bipush 16, 2) := by decide +kernel
theorem d_M_answer_52 : decode b_M_answer 52 = .ok (.if_icmp .ne 12, 3) := by decide +kernel
theorem d_M_answer_55 : decode b_M_answer 55 = .ok (.aload_n 0, 1) := by decide +kernel
theorem d_M_answer_56 : decode b_M_answer 56 = .ok (.getfield 195, 3) := by decide +kernel
theorem d_M_answer_59 : decode b_M_answer 59 = .ok (.iconst 1, 1) := by decide +kernel
theorem d_M_answer_60 : decode b_M_answer 60 = .ok (.iadd, 1) := by decide +kernel
theorem d_M_answer_61 : decode b_M_answer 61 = .ok (.goto 4, 3) := by decide +kernel
theorem d_M_answer_64 : decode b_M_answer 64 = .ok (.iconst 1, 1) := by decide +kernel
theorem d_M_answer_65 : decode b_M_answer 65 = .ok (.istore_n 2, 1) := by decide +kernel
theorem d_M_answer_66 : decode b_M_answer 66 = .ok (.aload_n 0, 1) := by decide +kernel
theorem d_M_answer_67 : decode b_M_answer 67 = .ok (.getfield 272, 3) := by decide +kernel
theorem d_M_answer_70 : decode b_M_answer 70 = .ok (.iload_n 2, 1) := by decide +kernel
theorem d_M_answer_71 : decode b_M_answer 71 = .ok (.iadd, 1) := by decide +kernel
theorem d_M_answer_72 : decode b_M_answer 72 = .ok (.bipush 60, 2) := by decide +kernel
theorem d_M_answer_74 : decode b_M_answer 74 = .ok (.if_icmp .le 6, 3) := by decide +kernel
theorem d_M_answer_77 : decode b_M_answer 77 = .ok (.bipush (-104), 2) := by decide +kernel
theorem d_M_answer_79 : decode b_M_answer 79 = .ok (.ireturn, 1) := by decide +kernel
theorem d_M_answer_80 : decode b_M_answer 80 = .ok (.aload_n 0, 1) := by decide +kernel
theorem d_M_answer_81 : decode b_M_answer 81 = .ok (.getfield 293, 3) := by decide +kernel
theorem d_M_answer_84 : decode b_M_answer 84 = .ok (.bipush 15, 2) := by decide +kernel
theorem d_M_answer_86 : decode b_M_answer 86 = .ok (.if_icmp .ne 15, 3) := by decide +kernel
theorem d_M_answer_89 : decode b_M_answer 89 = .ok (.aload_n 0, 1) := by decide +kernel
theorem d_M_answer_90 : decode b_M_answer 90 = .ok (.aload_n 0, 1) := by decide +kernel
theorem d_M_answer_91 : decode b_M_answer 91 = .ok (.getfield 245, 3) := by decide +kernel
theorem d_M_answer_94 : decode b_M_answer 94 = .ok (.iload_n 1, 1) := by decide +kernel
theorem d_M_answer_95 : decode b_M_answer 95 = .ok (.invokevirtual 315, 3) := by decide +kernel
theorem d_M_answer_98 : decode b_M_answer 98 = .ok (.goto 42, 3) := by decide +kernel
theorem d_M_answer_101 : decode b_M_answer 101 = .ok (.iconst 0, 1) := by decide +kernel
theorem d_M_answer_102 : decode b_M_answer 102 = .ok (.istore_n 3, 1) := by decide +kernel
theorem d_M_answer_103 : decode b_M_answer 103 = .ok (.iload_n 3, 1) := by decide +kernel
theorem d_M_answer_104 : decode b_M_answer 104 = .ok (.aload_n 0, 1) := by decide +kernel
theorem d_M_answer_105 : decode b_M_answer 105 = .ok (.getfield 195, 3) := by decide +kernel
theorem d_M_answer_108 : decode b_M_answer 108 = .ok (.if_icmp .ge 23, 3) := by decide +kernel
theorem d_M_answer_111 : decode b_M_answer 111 = .ok (.aload_n 0, 1) := by decide +kernel
theorem d_M_answer_112 : decode b_M_answer 112 = .ok (.aload_n 0, 1) := by decide +kernel
theorem d_M_answer_113 : decode b_M_answer 113 = .ok (.getfield 272, 3) := by decide +kernel
theorem d_M_answer_116 : decode b_M_answer 116 = .ok (.aload_n 0, 1) := by decide +kernel
theorem d_M_answer_117 : decode b_M_answer 117 = .ok (.getfield 59, 3) := by decide +kernel
theorem d_M_answer_120 : decode b_M_answer 120 = .ok (.iload_n 3, 1) := by decide +kernel
theorem d_M_answer_121 : decode b_M_answer 121 = .ok (.iaload, 1) := by decide +kernel
theorem d_M_answer_122 : decode b_M_answer 122 = .ok (.invokevirtual 315, 3) := by decide +kernel
theorem d_M_answer_125 : decode b_M_answer 125 = .ok (.iinc 3 1, 3) := by decide +kernel
theorem d_M_answer_128 : decode b_M_answer 128 = .ok (.goto (-25), 3) := by decide +kernel
theorem d_M_answer_131 : decode b_M_answer 131 = .ok (.aload_n 0, 1) := by decide +kernel
theorem d_M_answer_132 : decode b_M_answer 132 = .ok (.aload_n 0, 1) := by decide +kernel
theorem d_M_answer_133 : decode b_M_answer 133 = .ok (.getfield 272, 3) := by decide +kernel
theorem d_M_answer_136 : decode b_M_answer 136 = .ok (.iload_n 1, 1) := by decide +kernel
theorem d_M_answer_137 : decode b_M_answer 137 = .ok (.invokevirtual 315, 3) := by decide +kernel
theorem d_M_answer_140 : decode b_M_answer 140 = .ok (.aload_n 0, 1) := by decide +kernel
theorem d_M_answer_141 : decode b_M_answer 141 = .ok (.invokevirtual 305, 3) := by decide +kernel
theorem d_M_answer_144 : decode b_M_answer 144 = .ok (.aload_n 0, 1) := by decide +kernel
theorem d_M_answer_145 : decode b_M_answer 145 = .ok (.invokevirtual 308, 3) := by decide +kernel
theorem d_M_answer_148 : decode b_M_answer 148 = .ok (.ireturn, 1) := by decide +kernel
theorem d_M_object_0 : decode b_M_object 0 = .ok (.aload_n 0, 1) := by decide +kernel
theorem d_M_object_1 : decode b_M_object 1 = .ok (.getfield 286, 3) := by decide +kernel
theorem d_M_object_4 : decode b_M_object 4 = .ok (.ifCond .eq 23, 3) := by decide +kernel
theorem d_M_object_7 : decode b_M_object 7 = .ok (.iload_n 1, 1) := by decide +kernel
theorem d_M_object_8 : decode b_M_object 8 = .ok (.iconst 0, 1) := by decide +kernel
theorem d_M_object_9 : decode b_M_object 9 = .ok (.aload_n 0, 1) := by decide +kernel
theorem d_M_object_10 : decode b_M_object 10 = .ok (.getfield 186, 3) := by decide +kernel
theorem d_M_object_13 : decode b_M_object 13 = .ok (.iconst 1, 1) := by decide +kernel
theorem d_M_object_14 : decode b_M_object 14 = .ok (.isub, 1) := by decide +kernel
theorem d_M_object_15 : decode b_M_object 15 = .ok (.invokestatic 112, 3) := by decide +kernel
theorem d_M_object_18 : decode b_M_object 18 = .ok (.ifCond .eq 9, 3) := by decide +kernel
theorem d_M_object_21 : decode b_M_object 21 = .ok (.iload_n 2, 1) := by decide +kernel
theorem d_M_object_22 : decode b_M_object 22 = .ok (.bipush (-2), 2) := by decide +kernel
theorem d_M_object_24 : decode b_M_object 24 = .ok (.if_icmp .ge 5, 3) := by decide +kernel
theorem d_M_object_27 : decode b_M_object 27 = .ok (.iconst (-1), 1) := by decide +kernel
theorem d_M_object_28 : decode b_M_object 28 = .ok (.ireturn, 1) := by decide +kernel
theorem d_M_object_29 : decode b_M_object 29 = .ok (.aload_n 0, 1) := by decide +kernel
theorem d_M_object_30 : decode b_M_object 30 = .ok (.getfield 22, 3) := by decide +kernel
theorem d_M_object_33 : decode b_M_object 33 = .ok (.aload_n 0, 1) := by decide +kernel
theorem d_M_object_34 : decode b_M_object 34 = .ok (.getfield 109, 3) := by decide +kernel
theorem d_M_object_37 : decode b_M_object 37 = .ok (.baload, 1) := by decide +kernel
theorem d_M_object_38 : decode b_M_object 38 = .ok (.ifCond .eq 17, 3) := by decide +kernel
theorem d_M_object_41 : decode b_M_object 41 = .ok (.aload_n 0, 1) := by decide +kernel
theorem d_M_object_42 : decode b_M_object 42 = .ok (.getfield 186, 3) := by decide +kernel
theorem d_M_object_45 : decode b_M_object 45 = .ok (.iconst 2, 1) := by decide +kernel
theorem d_M_object_46 : decode b_M_object 46 = .ok (.if_icmp .ne 9, 3) := by decide +kernel
theorem d_M_object_49 : decode b_M_object 49 = .ok (.iconst 1, 1) := by decide +kernel
theorem d_M_object_50 : decode b_M_object 50 = .ok (.iload_n 1, 1) := by decide +kernel
theorem d_M_object_51 : decode b_M_object 51 = .ok (.isub, 1) := by decide +kernel
theorem d_M_object_52 : decode b_M_object 52 = .ok (.goto 4, 3) := by decide +kernel
theorem d_M_object_55 : decode b_M_object 55 = .ok (.iload_n 1, 1) := by decide +kernel
theorem d_M_object_56 : decode b_M_object 56 = .ok (.istore_n 3, 1) := by decide +kernel
theorem d_M_object_57 : decode b_M_object 57 = .ok (.aload_n 0, 1) := by decide +kernel
theorem d_M_object_58 : decode b_M_object 58 = .ok (.getfield 65, 3) := by decide +kernel
theorem d_M_object_61 : decode b_M_object 61 = .ok (.iload_n 3, 1) := by decide +kernel
theorem d_M_object_62 : decode b_M_object 62 = .ok (.iaload, 1) := by decide +kernel
theorem d_M_object_63 : decode b_M_object 63 = .ok (.istore 4, 2) := by decide +kernel
theorem d_M_object_65 : decode b_M_object 65 = .ok (.iload_n 2, 1) := by decide +kernel
theorem d_M_object_66 : decode b_M_object 66 = .ok (.bipush (-2), 2) := by decide +kernel
theorem d_M_object_68 : decode b_M_object 68 = .ok (.if_icmp .ne 6, 3) := by decide +kernel
theorem d_M_object_71 : decode b_M_object 71 = .ok (.iload 4, 2) := by decide +kernel
theorem d_M_object_73 : decode b_M_object 73 = .ok (.ireturn, 1) := by decide +kernel
theorem d_M_object_74 : decode b_M_object 74 = .ok (.iload 4, 2) := by decide +kernel
theorem d_M_object_76 : decode b_M_object 76 = .ok (.bipush 8, 2) := by decide +kernel
theorem d_M_object_78 : decode b_M_object 78 = .ok (.if_icmp .gt 33, 3) := by decide +kernel
theorem d_M_object_81 : decode b_M_object 81 = .ok (.iload_n 2, 1) := by decide +kernel
theorem d_M_object_82 : decode b_M_object 82 = .ok (.iconst (-1), 1) := by decide +kernel
theorem d_M_object_83 : decode b_M_object 83 = .ok (.if_icmp .ne 16, 3) := by decide +kernel
theorem d_M_object_86 : decode b_M_object 86 = .ok (.aload_n 0, 1) := by decide +kernel
theorem d_M_object_87 : decode b_M_object 87 = .ok (.aload_n 0, 1) := by decide +kernel
theorem d_M_object_88 : decode b_M_object 88 = .ok (.getfield 71, 3) := by decide +kernel
theorem d_M_object_91 : decode b_M_object 91 = .ok (.iload_n 3, 1) := by decide +kernel
theorem d_M_object_92 : decode b_M_object 92 = .ok (.laload, 1) := by decide +kernel
theorem d_M_object_93 : decode b_M_object 93 = .ok (.invokevirtual 238, 3) := by decide +kernel
theorem d_M_object_96 : decode b_M_object 96 = .ok (.goto 14, 3) := by decide +kernel
theorem d_M_object_99 : decode b_M_object 99 = .ok (.aload_n 0, 1) := by decide +kernel
theorem d_M_object_100 : decode b_M_object 100 = .ok (.aload_n 0, 1) := by decide +kernel
theorem d_M_object_101 : decode b_M_object 101 = .ok (.getfield 71, 3) := by decide +kernel
theorem d_M_object_104 : decode b_M_object 104 = .ok (.iload_n 3, 1) := by decide +kernel
theorem d_M_object_105 : decode b_M_object 105 = .ok (.laload, 1) := by decide +kernel
theorem d_M_object_106 : decode b_M_object 106 = .ok (.iload_n 2, 1) := by decide +kernel
theorem d_M_object_107 : decode b_M_object 107 = .ok (.invokevirtual 262, 3) := by decide +kernel
theorem d_M_object_110 : decode b_M_object 110 = .ok (.ireturn, 1) := by decide +kernel
theorem d_M_object_111 : decode b_M_object 111 = .ok (.iload 4, 2) := by decide +kernel
theorem d_M_object_113 : decode b_M_object 113 = .ok (.bipush 9, 2) := by decide +kernel
theorem d_M_object_115 : decode b_M_object 115 = .ok (.if_icmp .ne 52, 3) := by decide +kernel
theorem d_M_object_118 : decode b_M_object 118 = .ok (.aload_n 0, 1) := by decide +kernel
theorem d_M_object_119 : decode b_M_object 119 = .ok (.getfield 78, 3) := by decide +kernel
theorem d_M_object_122 : decode b_M_object 122 = .ok (.iload_n 3, 1) := by decide +kernel
theorem d_M_object_123 : decode b_M_object 123 = .ok (.iaload, 1) := by decide +kernel
theorem d_M_object_124 : decode b_M_object 124 = .ok (.aload_n 0, 1) := by decide +kernel
theorem d_M_object_125 : decode b_M_object 125 = .ok (.getfield 75, 3) := by decide +kernel
theorem d_M_object_128 : decode b_M_object 128 = .ok (.iload_n 3, 1) := by decide +kernel
theorem d_M_object_129 : decode b_M_object 129 = .ok (.iaload, 1) := by decide +kernel
theorem d_M_object_130 : decode b_M_object 130 = .ok (.isub, 1) := by decide +kernel
theorem d_M_object_131 : decode b_M_object 131 = .ok (.istore 5, 2) := by decide +kernel
theorem d_M_object_133 : decode b_M_object 133 = .ok (.iload_n 2, 1) := by decide +kernel
theorem d_M_object_134 : decode b_M_object 134 = .ok (.iconst (-1), 1) := by decide +kernel
theorem d_M_object_135 : decode b_M_object 135 = .ok (.if_icmp .ne 8, 3) := by decide +kernel
theorem d_M_object_138 : decode b_M_object 138 = .ok (.iload 5, 2) := by decide +kernel
theorem d_M_object_140 : decode b_M_object 140 = .ok (.goto 26, 3) := by decide +kernel
theorem d_M_object_143 : decode b_M_object 143 = .ok (.iload_n 2, 1) := by decide +kernel
theorem d_M_object_144 : decode b_M_object 144 = .ok (.iload 5, 2) := by decide +kernel
theorem d_M_object_146 : decode b_M_object 146 = .ok (.if_icmp .ge 19, 3) := by decide +kernel
theorem d_M_object_149 : decode b_M_object 149 = .ok (.aload_n 0, 1) := by decide +kernel
theorem d_M_object_150 : decode b_M_object 150 = .ok (.getfield 56, 3) := by decide +kernel
theorem d_M_object_153 : decode b_M_object 153 = .ok (.aload_n 0, 1) := by decide +kernel
theorem d_M_object_154 : decode b_M_object 154 = .ok (.getfield 75, 3) := by decide +kernel
theorem d_M_object_157 : decode b_M_object 157 = .ok (.iload_n 3, 1) := by decide +kernel
theorem d_M_object_158 : decode b_M_object 158 = .ok (.iaload, 1) := by decide +kernel
theorem d_M_object_159 : decode b_M_object 159 = .ok (.iload_n 2, 1) := by decide +kernel
theorem d_M_object_160 : decode b_M_object 160 = .ok (.iadd, 1) := by decide +kernel
theorem d_M_object_161 : decode b_M_object 161 = .ok (.iaload, 1) := by decide +kernel
theorem d_M_object_162 : decode b_M_object 162 = .ok (.goto 4, 3) := by decide +kernel
theorem d_M_object_165 : decode b_M_object 165 = .ok (.iconst (-1), 1) := by decide +kernel
theorem d_M_object_166 : decode b_M_object 166 = .ok (.ireturn, 1) := by decide +kernel
theorem d_M_object_167 : decode b_M_object 167 = .ok (.iload_n 2, 1) := by decide +kernel
theorem d_M_object_168 : decode b_M_object 168 = .ok (.iconst (-1), 1) := by decide +kernel
theorem d_M_object_169 : decode b_M_object 169 = .ok (.if_icmp .ne 7, 3) := by decide +kernel
theorem d_M_object_172 : decode b_M_object 172 = .ok (.iconst 1, 1) := by decide +kernel
theorem d_M_object_173 : decode b_M_object 173 = .ok (.goto 17, 3) := by decide +kernel
theorem d_M_object_176 : decode b_M_object 176 = .ok (.iload_n 2, 1) := by decide +kernel
theorem d_M_object_177 : decode b_M_object 177 = .ok (.ifCond .ne 12, 3) := by decide +kernel
theorem d_M_object_180 : decode b_M_object 180 = .ok (.aload_n 0, 1) := by decide +kernel
theorem d_M_object_181 : decode b_M_object 181 = .ok (.getfield 81, 3) := by decide +kernel
theorem d_M_object_184 : decode b_M_object 184 = .ok (.iload_n 3, 1) := by decide +kernel
theorem d_M_object_185 : decode b_M_object 185 = .ok (.iaload, 1) := by decide +kernel
theorem d_M_object_186 : decode b_M_object 186 = .ok (.goto 4, 3) := by decide +kernel
theorem d_M_object_189 : decode b_M_object 189 = .ok (.iconst (-1), 1) := by decide +kernel
theorem d_M_object_190 : decode b_M_object 190 = .ok (.ireturn, 1) := by decide +kernel
theorem d_M_asked_0 : decode b_M_asked 0 = .ok (.iload_n 1, 1) := by decide +kernel
theorem d_M_asked_1 : decode b_M_asked 1 = .ok (.iconst (-1), 1) := by decide +kernel
theorem d_M_asked_2 : decode b_M_asked 2 = .ok (.if_icmp .ne 8, 3) := by decide +kernel
theorem d_M_asked_5 : decode b_M_asked 5 = .ok (.aload_n 0, 1) := by decide +kernel
theorem d_M_asked_6 : decode b_M_asked 6 = .ok (.getfield 293, 3) := by decide +kernel
theorem d_M_asked_9 : decode b_M_asked 9 = .ok (.ireturn, 1) := by decide +kernel
theorem d_M_asked_10 : decode b_M_asked 10 = .ok (.aload_n 0, 1) := by decide +kernel
theorem d_M_asked_11 : decode b_M_asked 11 = .ok (.getfield 293, 3) := by decide +kernel
theorem d_M_asked_14 : decode b_M_asked 14 = .ok (.ifCond .eq 7, 3) := by decide +kernel
theorem d_M_asked_17 : decode b_M_asked 17 = .ok (.iload_n 1, 1) := by decide +kernel
theorem d_M_asked_18 : decode b_M_asked 18 = .ok (.ifCond .ge 5, 3) := by decide +kernel
theorem d_M_asked_21 : decode b_M_asked 21 = .ok (.iconst (-1), 1) := by decide +kernel
theorem d_M_asked_22 : decode b_M_asked 22 = .ok (.ireturn, 1) := by decide +kernel
theorem d_M_asked_23 : decode b_M_asked 23 = .ok (.aload_n 0, 1) := by decide +kernel
theorem d_M_asked_24 : decode b_M_asked 24 = .ok (.getfield 293, 3) := by decide +kernel
theorem d_M_asked_27 : decode b_M_asked 27 = .ok (.bipush 15, 2) := by decide +kernel
theorem d_M_asked_29 : decode b_M_asked 29 = .ok (.if_icmp .ne 13, 3) := by decide +kernel
theorem d_M_asked_32 : decode b_M_asked 32 = .ok (.aload_n 0, 1) := by decide +kernel
theorem d_M_asked_33 : decode b_M_asked 33 = .ok (.aload_n 0, 1) := by decide +kernel
theorem d_M_asked_34 : decode b_M_asked 34 = .ok (.getfield 242, 3) := by decide +kernel
theorem d_M_asked_37 : decode b_M_asked 37 = .ok (.iload_n 1, 1) := by decide +kernel
theorem d_M_asked_38 : decode b_M_asked 38 = .ok (.invokevirtual 262, 3) := by decide +kernel
theorem d_M_asked_41 : decode b_M_asked 41 = .ok (.ireturn, 1) := by decide +kernel
theorem d_M_asked_42 : decode b_M_asked 42 = .ok (.iload_n 1, 1) := by decide +kernel
theorem d_M_asked_43 : decode b_M_asked 43 = .ok (.ifCond .ne 10, 3) := by decide +kernel
theorem d_M_asked_46 : decode b_M_asked 46 = .ok (.aload_n 0, 1) := by decide +kernel
theorem d_M_asked_47 : decode b_M_asked 47 = .ok (.getfield 256, 3) := by decide +kernel
theorem d_M_asked_50 : decode b_M_asked 50 = .ok (.goto 23, 3) := by decide +kernel
theorem d_M_asked_53 : decode b_M_asked 53 = .ok (.iload_n 1, 1) := by decide +kernel
theorem d_M_asked_54 : decode b_M_asked 54 = .ok (.aload_n 0, 1) := by decide +kernel
theorem d_M_asked_55 : decode b_M_asked 55 = .ok (.getfield 195, 3) := by decide +kernel
theorem d_M_asked_58 : decode b_M_asked 58 = .ok (.if_icmp .gt 14, 3) := by decide +kernel
theorem d_M_asked_61 : decode b_M_asked 61 = .ok (.aload_n 0, 1) := by decide +kernel
theorem d_M_asked_62 : decode b_M_asked 62 = .ok (.getfield 59, 3) := by decide +kernel
theorem d_M_asked_65 : decode b_M_asked 65 = .ok (.iload_n 1, 1) := by decide +kernel
theorem d_M_asked_66 : decode b_M_asked 66 = .ok (.iconst 1, 1) := by decide +kernel
theorem d_M_asked_67 : decode b_M_asked 67 = .ok (.isub, 1) := by decide +kernel
theorem d_M_asked_68 : decode b_M_asked 68 = .ok (.iaload, 1) := by decide +kernel
theorem d_M_asked_69 : decode b_M_asked 69 = .ok (.goto 4, 3) := by decide +kernel
theorem d_M_asked_72 : decode b_M_asked 72 = .ok (.iconst (-1), 1) := by decide +kernel
theorem d_M_asked_73 : decode b_M_asked 73 = .ok (.ireturn, 1) := by decide +kernel
theorem d_M_filled_0 : decode b_M_filled 0 = .ok (.aload_n 0, 1) := by decide +kernel
theorem d_M_filled_1 : decode b_M_filled 1 = .ok (.getfield 286, 3) := by decide +kernel
theorem d_M_filled_4 : decode b_M_filled 4 = .ok (.ifCond .eq 26, 3) := by decide +kernel
theorem d_M_filled_7 : decode b_M_filled 7 = .ok (.iload_n 1, 1) := by decide +kernel
theorem d_M_filled_8 : decode b_M_filled 8 = .ok (.iconst 0, 1) := by decide +kernel
theorem d_M_filled_9 : decode b_M_filled 9 = .ok (.aload_n 0, 1) := by decide +kernel
theorem d_M_filled_10 : decode b_M_filled 10 = .ok (.getfield 192, 3) := by decide +kernel
theorem d_M_filled_13 : decode b_M_filled 13 = .ok (.iconst 1, 1) := by decide +kernel
theorem d_M_filled_14 : decode b_M_filled 14 = .ok (.isub, 1) := by decide +kernel
theorem d_M_filled_15 : decode b_M_filled 15 = .ok (.invokestatic 112, 3) := by decide +kernel
theorem d_M_filled_18 : decode b_M_filled 18 = .ok (.ifCond .eq 12, 3) := by decide +kernel
theorem d_M_filled_21 : decode b_M_filled 21 = .ok (.aload_n 0, 1) := by decide +kernel
theorem d_M_filled_22 : decode b_M_filled 22 = .ok (.getfield 62, 3) := by decide +kernel
theorem d_M_filled_25 : decode b_M_filled 25 = .ok (.iload_n 1, 1) := by decide +kernel
theorem d_M_filled_26 : decode b_M_filled 26 = .ok (.iaload, 1) := by decide +kernel
theorem d_M_filled_27 : decode b_M_filled 27 = .ok (.goto 4, 3) := by decide +kernel
theorem d_M_filled_30 : decode b_M_filled 30 = .ok (.iconst (-1), 1) := by decide +kernel
theorem d_M_filled_31 : decode b_M_filled 31 = .ok (.ireturn, 1) := by decide +kernel
theorem d_M_told_0 : decode b_M_told 0 = .ok (.iload_n 1, 1) := by decide +kernel
theorem d_M_told_1 : decode b_M_told 1 = .ok (.tableswitch 114 0 10 #[59, 64, 69, 74, 79, 84, 89, 94, 99, 104, 109], 59) := by decide +kernel
theorem d_M_told_60 : decode b_M_told 60 = .ok (.aload_n 0, 1) := by decide +kernel
theorem d_M_told_61 : decode b_M_told 61 = .ok (.getfield 269, 3) := by decide +kernel
theorem d_M_told_64 : decode b_M_told 64 = .ok (.ireturn, 1) := by decide +kernel
theorem d_M_told_65 : decode b_M_told 65 = .ok (.aload_n 0, 1) := by decide +kernel
theorem d_M_told_66 : decode b_M_told 66 = .ok (.getfield 106, 3) := by decide +kernel
theorem d_M_told_69 : decode b_M_told 69 = .ok (.ireturn, 1) := by decide +kernel
theorem d_M_told_70 : decode b_M_told 70 = .ok (.aload_n 0, 1) := by decide +kernel
theorem d_M_told_71 : decode b_M_told 71 = .ok (.getfield 109, 3) := by decide +kernel
theorem d_M_told_74 : decode b_M_told 74 = .ok (.ireturn, 1) := by decide +kernel
theorem d_M_told_75 : decode b_M_told 75 = .ok (.aload_n 0, 1) := by decide +kernel
theorem d_M_told_76 : decode b_M_told 76 = .ok (.getfield 103, 3) := by decide +kernel
theorem d_M_told_79 : decode b_M_told 79 = .ok (.ireturn, 1) := by decide +kernel
theorem d_M_told_80 : decode b_M_told 80 = .ok (.aload_n 0, 1) := by decide +kernel
theorem d_M_told_81 : decode b_M_told 81 = .ok (.getfield 266, 3) := by decide +kernel
theorem d_M_told_84 : decode b_M_told 84 = .ok (.ireturn, 1) := by decide +kernel
theorem d_M_told_85 : decode b_M_told 85 = .ok (.aload_n 0, 1) := by decide +kernel
theorem d_M_told_86 : decode b_M_told 86 = .ok (.getfield 157, 3) := by decide +kernel
theorem d_M_told_89 : decode b_M_told 89 = .ok (.ireturn, 1) := by decide +kernel
theorem d_M_told_90 : decode b_M_told 90 = .ok (.aload_n 0, 1) := by decide +kernel
theorem d_M_told_91 : decode b_M_told 91 = .ok (.getfield 272, 3) := by decide +kernel
theorem d_M_told_94 : decode b_M_told 94 = .ok (.ireturn, 1) := by decide +kernel
theorem d_M_told_95 : decode b_M_told 95 = .ok (.aload_n 0, 1) := by decide +kernel
theorem d_M_told_96 : decode b_M_told 96 = .ok (.getfield 127, 3) := by decide +kernel
theorem d_M_told_99 : decode b_M_told 99 = .ok (.ireturn, 1) := by decide +kernel
theorem d_M_told_100 : decode b_M_told 100 = .ok (.aload_n 0, 1) := by decide +kernel
theorem d_M_told_101 : decode b_M_told 101 = .ok (.getfield 134, 3) := by decide +kernel
theorem d_M_told_104 : decode b_M_told 104 = .ok (.ireturn, 1) := by decide +kernel
theorem d_M_told_105 : decode b_M_told 105 = .ok (.aload_n 0, 1) := by decide +kernel
theorem d_M_told_106 : decode b_M_told 106 = .ok (.getfield 140, 3) := by decide +kernel
theorem d_M_told_109 : decode b_M_told 109 = .ok (.ireturn, 1) := by decide +kernel
theorem d_M_told_110 : decode b_M_told 110 = .ok (.aload_n 0, 1) := by decide +kernel
theorem d_M_told_111 : decode b_M_told 111 = .ok (.getfield 147, 3) := by decide +kernel
theorem d_M_told_114 : decode b_M_told 114 = .ok (.ireturn, 1) := by decide +kernel
theorem d_M_told_115 : decode b_M_told 115 = .ok (.iconst (-1), 1) := by decide +kernel
theorem d_M_told_116 : decode b_M_told 116 = .ok (.ireturn, 1) := by decide +kernel
theorem d_M_trace_0 : decode b_M_trace 0 = .ok (.iload_n 1, 1) := by decide +kernel
theorem d_M_trace_1 : decode b_M_trace 1 = .ok (.iconst 0, 1) := by decide +kernel
theorem d_M_trace_2 : decode b_M_trace 2 = .ok (.aload_n 0, 1) := by decide +kernel
theorem d_M_trace_3 : decode b_M_trace 3 = .ok (.getfield 266, 3) := by decide +kernel
theorem d_M_trace_6 : decode b_M_trace 6 = .ok (.iconst 1, 1) := by decide +kernel
theorem d_M_trace_7 : decode b_M_trace 7 = .ok (.isub, 1) := by decide +kernel
theorem d_M_trace_8 : decode b_M_trace 8 = .ok (.invokestatic 112, 3) := by decide +kernel
theorem d_M_trace_11 : decode b_M_trace 11 = .ok (.ifCond .eq 12, 3) := by decide +kernel
theorem d_M_trace_14 : decode b_M_trace 14 = .ok (.iload_n 2, 1) := by decide +kernel
theorem d_M_trace_15 : decode b_M_trace 15 = .ok (.iconst 0, 1) := by decide +kernel
theorem d_M_trace_16 : decode b_M_trace 16 = .ok (.iconst 2, 1) := by decide +kernel
theorem d_M_trace_17 : decode b_M_trace 17 = .ok (.invokestatic 112, 3) := by decide +kernel
theorem d_M_trace_20 : decode b_M_trace 20 = .ok (.ifCond .ne 5, 3) := by decide +kernel
theorem d_M_trace_23 : decode b_M_trace 23 = .ok (.iconst (-1), 1) := by decide +kernel
theorem d_M_trace_24 : decode b_M_trace 24 = .ok (.ireturn, 1) := by decide +kernel
theorem d_M_trace_25 : decode b_M_trace 25 = .ok (.iload_n 2, 1) := by decide +kernel
theorem d_M_trace_26 : decode b_M_trace 26 = .ok (.ifCond .ne 12, 3) := by decide +kernel
theorem d_M_trace_29 : decode b_M_trace 29 = .ok (.aload_n 0, 1) := by decide +kernel
theorem d_M_trace_30 : decode b_M_trace 30 = .ok (.getfield 87, 3) := by decide +kernel
theorem d_M_trace_33 : decode b_M_trace 33 = .ok (.iload_n 1, 1) := by decide +kernel
theorem d_M_trace_34 : decode b_M_trace 34 = .ok (.iaload, 1) := by decide +kernel
theorem d_M_trace_35 : decode b_M_trace 35 = .ok (.goto 23, 3) := by decide +kernel
theorem d_M_trace_38 : decode b_M_trace 38 = .ok (.iload_n 2, 1) := by decide +kernel
theorem d_M_trace_39 : decode b_M_trace 39 = .ok (.iconst 1, 1) := by decide +kernel
theorem d_M_trace_40 : decode b_M_trace 40 = .ok (.if_icmp .ne 12, 3) := by decide +kernel
theorem d_M_trace_43 : decode b_M_trace 43 = .ok (.aload_n 0, 1) := by decide +kernel
theorem d_M_trace_44 : decode b_M_trace 44 = .ok (.getfield 90, 3) := by decide +kernel
theorem d_M_trace_47 : decode b_M_trace 47 = .ok (.iload_n 1, 1) := by decide +kernel
theorem d_M_trace_48 : decode b_M_trace 48 = .ok (.iaload, 1) := by decide +kernel
theorem d_M_trace_49 : decode b_M_trace 49 = .ok (.goto 9, 3) := by decide +kernel
theorem d_M_trace_52 : decode b_M_trace 52 = .ok (.aload_n 0, 1) := by decide +kernel
theorem d_M_trace_53 : decode b_M_trace 53 = .ok (.getfield 93, 3) := by decide +kernel
theorem d_M_trace_56 : decode b_M_trace 56 = .ok (.iload_n 1, 1) := by decide +kernel
theorem d_M_trace_57 : decode b_M_trace 57 = .ok (.iaload, 1) := by decide +kernel
theorem d_M_trace_58 : decode b_M_trace 58 = .ok (.ireturn, 1) := by decide +kernel
theorem d_M_said_0 : decode b_M_said 0 = .ok (.iload_n 1, 1) := by decide +kernel
theorem d_M_said_1 : decode b_M_said 1 = .ok (.ifCond .ne 28, 3) := by decide +kernel
theorem d_M_said_4 : decode b_M_said 4 = .ok (.iload_n 2, 1) := by decide +kernel
theorem d_M_said_5 : decode b_M_said 5 = .ok (.iconst 0, 1) := by decide +kernel
theorem d_M_said_6 : decode b_M_said 6 = .ok (.aload_n 0, 1) := by decide +kernel
theorem d_M_said_7 : decode b_M_said 7 = .ok (.getfield 272, 3) := by decide +kernel
theorem d_M_said_10 : decode b_M_said 10 = .ok (.iconst 1, 1) := by decide +kernel
theorem d_M_said_11 : decode b_M_said 11 = .ok (.isub, 1) := by decide +kernel
end
section
theorem d_M_said_12 : decode b_M_said 12 = .ok (.invokestatic 112, 3) := by decide +kernel
theorem d_M_said_15 : decode b_M_said 15 = .ok (.ifCond .eq 12, 3) := by decide +kernel
theorem d_M_said_18 : decode b_M_said 18 = .ok (.aload_n 0, 1) := by decide +kernel
theorem d_M_said_19 : decode b_M_said 19 = .ok (.getfield 84, 3) := by decide +kernel
theorem d_M_said_22 : decode b_M_said 22 = .ok (.iload_n 2, 1) := by decide +kernel
theorem d_M_said_23 : decode b_M_said 23 = .ok (.iaload, 1) := by decide +kernel
theorem d_M_said_24 : decode b_M_said 24 = .ok (.goto 4, 3) := by decide +kernel
theorem d_M_said_27 : decode b_M_said 27 = .ok (.iconst (-1), 1) := by decide +kernel
theorem d_M_said_28 : decode b_M_said 28 = .ok (.ireturn, 1) := by decide +kernel
theorem d_M_said_29 : decode b_M_said 29 = .ok (.iload_n 1, 1) := by decide +kernel
theorem d_M_said_30 : decode b_M_said 30 = .ok (.iconst 1, 1) := by decide +kernel
theorem d_M_said_31 : decode b_M_said 31 = .ok (.if_icmp .ne 26, 3) := by decide +kernel
theorem d_M_said_34 : decode b_M_said 34 = .ok (.iload_n 2, 1) := by decide +kernel
theorem d_M_said_35 : decode b_M_said 35 = .ok (.iconst 0, 1) := by decide +kernel
theorem d_M_said_36 : decode b_M_said 36 = .ok (.aload_n 0, 1) := by decide +kernel
theorem d_M_said_37 : decode b_M_said 37 = .ok (.getfield 157, 3) := by decide +kernel
theorem d_M_said_40 : decode b_M_said 40 = .ok (.iconst 1, 1) := by decide +kernel
theorem d_M_said_41 : decode b_M_said 41 = .ok (.isub, 1) := by decide +kernel
theorem d_M_said_42 : decode b_M_said 42 = .ok (.invokestatic 112, 3) := by decide +kernel
theorem d_M_said_45 : decode b_M_said 45 = .ok (.ifCond .eq 12, 3) := by decide +kernel
theorem d_M_said_48 : decode b_M_said 48 = .ok (.aload_n 0, 1) := by decide +kernel
theorem d_M_said_49 : decode b_M_said 49 = .ok (.getfield 53, 3) := by decide +kernel
theorem d_M_said_52 : decode b_M_said 52 = .ok (.iload_n 2, 1) := by decide +kernel
theorem d_M_said_53 : decode b_M_said 53 = .ok (.iaload, 1) := by decide +kernel
theorem d_M_said_54 : decode b_M_said 54 = .ok (.goto 4, 3) := by decide +kernel
theorem d_M_said_57 : decode b_M_said 57 = .ok (.iconst (-1), 1) := by decide +kernel
theorem d_M_said_58 : decode b_M_said 58 = .ok (.ireturn, 1) := by decide +kernel
theorem d_Row_init_0 : decode b_Row_init 0 = .ok (.aload_n 0, 1) := by decide +kernel
theorem d_Row_init_1 : decode b_Row_init 1 = .ok (.invokespecial 3, 3) := by decide +kernel
theorem d_Row_init_4 : decode b_Row_init 4 = .ok (.aload_n 0, 1) := by decide +kernel
theorem d_Row_init_5 : decode b_Row_init 5 = .ok (.iload_n 1, 1) := by decide +kernel
theorem d_Row_init_6 : decode b_Row_init 6 = .ok (.iconst 0, 1) := by decide +kernel
theorem d_Row_init_7 : decode b_Row_init 7 = .ok (.invokestatic 9, 3) := by decide +kernel
theorem d_Row_init_10 : decode b_Row_init 10 = .ok (.newarray .int, 2) := by decide +kernel
theorem d_Row_init_12 : decode b_Row_init 12 = .ok (.putfield 15, 3) := by decide +kernel
theorem d_Row_init_15 : decode b_Row_init 15 = .ok (.return_, 1) := by decide +kernel
theorem d_Slot_init_0 : decode b_Slot_init 0 = .ok (.aload_n 0, 1) := by decide +kernel
theorem d_Slot_init_1 : decode b_Slot_init 1 = .ok (.invokespecial 3, 3) := by decide +kernel
theorem d_Slot_init_4 : decode b_Slot_init 4 = .ok (.aload_n 0, 1) := by decide +kernel
theorem d_Slot_init_5 : decode b_Slot_init 5 = .ok (.new 9, 3) := by decide +kernel
theorem d_Slot_init_8 : decode b_Slot_init 8 = .ok (.dup, 1) := by decide +kernel
theorem d_Slot_init_9 : decode b_Slot_init 9 = .ok (.bipush 60, 2) := by decide +kernel
theorem d_Slot_init_11 : decode b_Slot_init 11 = .ok (.invokespecial 11, 3) := by decide +kernel
theorem d_Slot_init_14 : decode b_Slot_init 14 = .ok (.putfield 14, 3) := by decide +kernel
theorem d_Slot_init_17 : decode b_Slot_init 17 = .ok (.aload_n 0, 1) := by decide +kernel
theorem d_Slot_init_18 : decode b_Slot_init 18 = .ok (.iconst (-1), 1) := by decide +kernel
theorem d_Slot_init_19 : decode b_Slot_init 19 = .ok (.putfield 20, 3) := by decide +kernel
theorem d_Slot_init_22 : decode b_Slot_init 22 = .ok (.aload_n 0, 1) := by decide +kernel
theorem d_Slot_init_23 : decode b_Slot_init 23 = .ok (.iconst (-1), 1) := by decide +kernel
theorem d_Slot_init_24 : decode b_Slot_init 24 = .ok (.putfield 24, 3) := by decide +kernel
theorem d_Slot_init_27 : decode b_Slot_init 27 = .ok (.return_, 1) := by decide +kernel
theorem d_Phrase_init_0 : decode b_Phrase_init 0 = .ok (.aload_n 0, 1) := by decide +kernel
theorem d_Phrase_init_1 : decode b_Phrase_init 1 = .ok (.invokespecial 1, 3) := by decide +kernel
theorem d_Phrase_init_4 : decode b_Phrase_init 4 = .ok (.aload_n 0, 1) := by decide +kernel
theorem d_Phrase_init_5 : decode b_Phrase_init 5 = .ok (.aload_n 1, 1) := by decide +kernel
theorem d_Phrase_init_6 : decode b_Phrase_init 6 = .ok (.putfield 7, 3) := by decide +kernel
theorem d_Phrase_init_9 : decode b_Phrase_init 9 = .ok (.return_, 1) := by decide +kernel
theorem d_Things_init_0 : decode b_Things_init 0 = .ok (.aload_n 0, 1) := by decide +kernel
theorem d_Things_init_1 : decode b_Things_init 1 = .ok (.invokespecial 3, 3) := by decide +kernel
theorem d_Things_init_4 : decode b_Things_init 4 = .ok (.aload_n 0, 1) := by decide +kernel
theorem d_Things_init_5 : decode b_Things_init 5 = .ok (.bipush 40, 2) := by decide +kernel
theorem d_Things_init_7 : decode b_Things_init 7 = .ok (.newarray .int, 2) := by decide +kernel
theorem d_Things_init_9 : decode b_Things_init 9 = .ok (.putfield 9, 3) := by decide +kernel
theorem d_Things_init_12 : decode b_Things_init 12 = .ok (.aload_n 0, 1) := by decide +kernel
theorem d_Things_init_13 : decode b_Things_init 13 = .ok (.bipush 40, 2) := by decide +kernel
theorem d_Things_init_15 : decode b_Things_init 15 = .ok (.newarray .int, 2) := by decide +kernel
theorem d_Things_init_17 : decode b_Things_init 17 = .ok (.putfield 15, 3) := by decide +kernel
theorem d_Things_init_20 : decode b_Things_init 20 = .ok (.aload_n 0, 1) := by decide +kernel
theorem d_Things_init_21 : decode b_Things_init 21 = .ok (.sipush 160, 3) := by decide +kernel
theorem d_Things_init_24 : decode b_Things_init 24 = .ok (.newarray .int, 2) := by decide +kernel
theorem d_Things_init_26 : decode b_Things_init 26 = .ok (.putfield 18, 3) := by decide +kernel
theorem d_Things_init_29 : decode b_Things_init 29 = .ok (.return_, 1) := by decide +kernel
theorem d_Verbs_init_0 : decode b_Verbs_init 0 = .ok (.aload_n 0, 1) := by decide +kernel
theorem d_Verbs_init_1 : decode b_Verbs_init 1 = .ok (.invokespecial 3, 3) := by decide +kernel
theorem d_Verbs_init_4 : decode b_Verbs_init 4 = .ok (.aload_n 0, 1) := by decide +kernel
theorem d_Verbs_init_5 : decode b_Verbs_init 5 = .ok (.new 9, 3) := by decide +kernel
theorem d_Verbs_init_8 : decode b_Verbs_init 8 = .ok (.dup, 1) := by decide +kernel
theorem d_Verbs_init_9 : decode b_Verbs_init 9 = .ok (.bipush 60, 2) := by decide +kernel
theorem d_Verbs_init_11 : decode b_Verbs_init 11 = .ok (.invokespecial 11, 3) := by decide +kernel
theorem d_Verbs_init_14 : decode b_Verbs_init 14 = .ok (.putfield 14, 3) := by decide +kernel
theorem d_Verbs_init_17 : decode b_Verbs_init 17 = .ok (.aload_n 0, 1) := by decide +kernel
theorem d_Verbs_init_18 : decode b_Verbs_init 18 = .ok (.new 9, 3) := by decide +kernel
theorem d_Verbs_init_21 : decode b_Verbs_init 21 = .ok (.dup, 1) := by decide +kernel
theorem d_Verbs_init_22 : decode b_Verbs_init 22 = .ok (.bipush 60, 2) := by decide +kernel
theorem d_Verbs_init_24 : decode b_Verbs_init 24 = .ok (.invokespecial 11, 3) := by decide +kernel
theorem d_Verbs_init_27 : decode b_Verbs_init 27 = .ok (.putfield 20, 3) := by decide +kernel
theorem d_Verbs_init_30 : decode b_Verbs_init 30 = .ok (.return_, 1) := by decide +kernel
theorem d_Lines_init_0 : decode b_Lines_init 0 = .ok (.aload_n 0, 1) := by decide +kernel
theorem d_Lines_init_1 : decode b_Lines_init 1 = .ok (.invokespecial 3, 3) := by decide +kernel
theorem d_Lines_init_4 : decode b_Lines_init 4 = .ok (.aload_n 0, 1) := by decide +kernel
theorem d_Lines_init_5 : decode b_Lines_init 5 = .ok (.bipush 60, 2) := by decide +kernel
theorem d_Lines_init_7 : decode b_Lines_init 7 = .ok (.newarray .int, 2) := by decide +kernel
theorem d_Lines_init_9 : decode b_Lines_init 9 = .ok (.putfield 9, 3) := by decide +kernel
theorem d_Lines_init_12 : decode b_Lines_init 12 = .ok (.aload_n 0, 1) := by decide +kernel
theorem d_Lines_init_13 : decode b_Lines_init 13 = .ok (.bipush 60, 2) := by decide +kernel
theorem d_Lines_init_15 : decode b_Lines_init 15 = .ok (.newarray .int, 2) := by decide +kernel
theorem d_Lines_init_17 : decode b_Lines_init 17 = .ok (.putfield 15, 3) := by decide +kernel
theorem d_Lines_init_20 : decode b_Lines_init 20 = .ok (.aload_n 0, 1) := by decide +kernel
theorem d_Lines_init_21 : decode b_Lines_init 21 = .ok (.bipush 60, 2) := by decide +kernel
theorem d_Lines_init_23 : decode b_Lines_init 23 = .ok (.newarray .boolean, 2) := by decide +kernel
theorem d_Lines_init_25 : decode b_Lines_init 25 = .ok (.putfield 18, 3) := by decide +kernel
theorem d_Lines_init_28 : decode b_Lines_init 28 = .ok (.aload_n 0, 1) := by decide +kernel
theorem d_Lines_init_29 : decode b_Lines_init 29 = .ok (.bipush 60, 2) := by decide +kernel
theorem d_Lines_init_31 : decode b_Lines_init 31 = .ok (.newarray .int, 2) := by decide +kernel
theorem d_Lines_init_33 : decode b_Lines_init 33 = .ok (.putfield 22, 3) := by decide +kernel
theorem d_Lines_init_36 : decode b_Lines_init 36 = .ok (.aload_n 0, 1) := by decide +kernel
theorem d_Lines_init_37 : decode b_Lines_init 37 = .ok (.sipush 480, 3) := by decide +kernel
theorem d_Lines_init_40 : decode b_Lines_init 40 = .ok (.newarray .int, 2) := by decide +kernel
theorem d_Lines_init_42 : decode b_Lines_init 42 = .ok (.putfield 25, 3) := by decide +kernel
theorem d_Lines_init_45 : decode b_Lines_init 45 = .ok (.aload_n 0, 1) := by decide +kernel
theorem d_Lines_init_46 : decode b_Lines_init 46 = .ok (.sipush 480, 3) := by decide +kernel
theorem d_Lines_init_49 : decode b_Lines_init 49 = .ok (.newarray .int, 2) := by decide +kernel
theorem d_Lines_init_51 : decode b_Lines_init 51 = .ok (.putfield 28, 3) := by decide +kernel
theorem d_Lines_init_54 : decode b_Lines_init 54 = .ok (.return_, 1) := by decide +kernel
theorem d_Values_init_0 : decode b_Values_init 0 = .ok (.aload_n 0, 1) := by decide +kernel
theorem d_Values_init_1 : decode b_Values_init 1 = .ok (.invokespecial 3, 3) := by decide +kernel
theorem d_Values_init_4 : decode b_Values_init 4 = .ok (.aload_n 0, 1) := by decide +kernel
theorem d_Values_init_5 : decode b_Values_init 5 = .ok (.new 9, 3) := by decide +kernel
theorem d_Values_init_8 : decode b_Values_init 8 = .ok (.dup, 1) := by decide +kernel
theorem d_Values_init_9 : decode b_Values_init 9 = .ok (.bipush 40, 2) := by decide +kernel
theorem d_Values_init_11 : decode b_Values_init 11 = .ok (.invokespecial 11, 3) := by decide +kernel
theorem d_Values_init_14 : decode b_Values_init 14 = .ok (.putfield 14, 3) := by decide +kernel
theorem d_Values_init_17 : decode b_Values_init 17 = .ok (.aload_n 0, 1) := by decide +kernel
theorem d_Values_init_18 : decode b_Values_init 18 = .ok (.new 9, 3) := by decide +kernel
theorem d_Values_init_21 : decode b_Values_init 21 = .ok (.dup, 1) := by decide +kernel
theorem d_Values_init_22 : decode b_Values_init 22 = .ok (.bipush 40, 2) := by decide +kernel
theorem d_Values_init_24 : decode b_Values_init 24 = .ok (.invokespecial 11, 3) := by decide +kernel
theorem d_Values_init_27 : decode b_Values_init 27 = .ok (.putfield 20, 3) := by decide +kernel
theorem d_Values_init_30 : decode b_Values_init 30 = .ok (.aload_n 0, 1) := by decide +kernel
theorem d_Values_init_31 : decode b_Values_init 31 = .ok (.new 9, 3) := by decide +kernel
theorem d_Values_init_34 : decode b_Values_init 34 = .ok (.dup, 1) := by decide +kernel
theorem d_Values_init_35 : decode b_Values_init 35 = .ok (.bipush 40, 2) := by decide +kernel
theorem d_Values_init_37 : decode b_Values_init 37 = .ok (.invokespecial 11, 3) := by decide +kernel
theorem d_Values_init_40 : decode b_Values_init 40 = .ok (.putfield 23, 3) := by decide +kernel
theorem d_Values_init_43 : decode b_Values_init 43 = .ok (.return_, 1) := by decide +kernel
theorem d_Trial_init_0 : decode b_Trial_init 0 = .ok (.aload_n 0, 1) := by decide +kernel
theorem d_Trial_init_1 : decode b_Trial_init 1 = .ok (.invokespecial 3, 3) := by decide +kernel
theorem d_Trial_init_4 : decode b_Trial_init 4 = .ok (.aload_n 0, 1) := by decide +kernel
theorem d_Trial_init_5 : decode b_Trial_init 5 = .ok (.new 9, 3) := by decide +kernel
theorem d_Trial_init_8 : decode b_Trial_init 8 = .ok (.dup, 1) := by decide +kernel
theorem d_Trial_init_9 : decode b_Trial_init 9 = .ok (.invokespecial 11, 3) := by decide +kernel
theorem d_Trial_init_12 : decode b_Trial_init 12 = .ok (.putfield 12, 3) := by decide +kernel
theorem d_Trial_init_15 : decode b_Trial_init 15 = .ok (.aload_n 0, 1) := by decide +kernel
theorem d_Trial_init_16 : decode b_Trial_init 16 = .ok (.new 9, 3) := by decide +kernel
theorem d_Trial_init_19 : decode b_Trial_init 19 = .ok (.dup, 1) := by decide +kernel
theorem d_Trial_init_20 : decode b_Trial_init 20 = .ok (.invokespecial 11, 3) := by decide +kernel
theorem d_Trial_init_23 : decode b_Trial_init 23 = .ok (.putfield 18, 3) := by decide +kernel
theorem d_Trial_init_26 : decode b_Trial_init 26 = .ok (.aload_n 0, 1) := by decide +kernel
theorem d_Trial_init_27 : decode b_Trial_init 27 = .ok (.new 21, 3) := by decide +kernel
theorem d_Trial_init_30 : decode b_Trial_init 30 = .ok (.dup, 1) := by decide +kernel
theorem d_Trial_init_31 : decode b_Trial_init 31 = .ok (.bipush 8, 2) := by decide +kernel
theorem d_Trial_init_33 : decode b_Trial_init 33 = .ok (.invokespecial 23, 3) := by decide +kernel
theorem d_Trial_init_36 : decode b_Trial_init 36 = .ok (.putfield 26, 3) := by decide +kernel
theorem d_Trial_init_39 : decode b_Trial_init 39 = .ok (.aload_n 0, 1) := by decide +kernel
theorem d_Trial_init_40 : decode b_Trial_init 40 = .ok (.new 21, 3) := by decide +kernel
theorem d_Trial_init_43 : decode b_Trial_init 43 = .ok (.dup, 1) := by decide +kernel
theorem d_Trial_init_44 : decode b_Trial_init 44 = .ok (.bipush 40, 2) := by decide +kernel
theorem d_Trial_init_46 : decode b_Trial_init 46 = .ok (.invokespecial 23, 3) := by decide +kernel
theorem d_Trial_init_49 : decode b_Trial_init 49 = .ok (.putfield 30, 3) := by decide +kernel
theorem d_Trial_init_52 : decode b_Trial_init 52 = .ok (.aload_n 0, 1) := by decide +kernel
theorem d_Trial_init_53 : decode b_Trial_init 53 = .ok (.iconst (-1), 1) := by decide +kernel
theorem d_Trial_init_54 : decode b_Trial_init 54 = .ok (.putfield 33, 3) := by decide +kernel
theorem d_Trial_init_57 : decode b_Trial_init 57 = .ok (.aload_n 0, 1) := by decide +kernel
theorem d_Trial_init_58 : decode b_Trial_init 58 = .ok (.iconst (-1), 1) := by decide +kernel
theorem d_Trial_init_59 : decode b_Trial_init 59 = .ok (.putfield 37, 3) := by decide +kernel
theorem d_Trial_init_62 : decode b_Trial_init 62 = .ok (.aload_n 0, 1) := by decide +kernel
theorem d_Trial_init_63 : decode b_Trial_init 63 = .ok (.aload_n 1, 1) := by decide +kernel
theorem d_Trial_init_64 : decode b_Trial_init 64 = .ok (.putfield 40, 3) := by decide +kernel
theorem d_Trial_init_67 : decode b_Trial_init 67 = .ok (.aload_n 0, 1) := by decide +kernel
theorem d_Trial_init_68 : decode b_Trial_init 68 = .ok (.aload_n 2, 1) := by decide +kernel
theorem d_Trial_init_69 : decode b_Trial_init 69 = .ok (.putfield 44, 3) := by decide +kernel
theorem d_Trial_init_72 : decode b_Trial_init 72 = .ok (.aload_n 0, 1) := by decide +kernel
theorem d_Trial_init_73 : decode b_Trial_init 73 = .ok (.aload_n 3, 1) := by decide +kernel
theorem d_Trial_init_74 : decode b_Trial_init 74 = .ok (.putfield 48, 3) := by decide +kernel
theorem d_Trial_init_77 : decode b_Trial_init 77 = .ok (.aload_n 0, 1) := by decide +kernel
theorem d_Trial_init_78 : decode b_Trial_init 78 = .ok (.aload 4, 2) := by decide +kernel
theorem d_Trial_init_80 : decode b_Trial_init 80 = .ok (.putfield 52, 3) := by decide +kernel
theorem d_Trial_init_83 : decode b_Trial_init 83 = .ok (.aload_n 0, 1) := by decide +kernel
theorem d_Trial_init_84 : decode b_Trial_init 84 = .ok (.new 55, 3) := by decide +kernel
theorem d_Trial_init_87 : decode b_Trial_init 87 = .ok (.dup, 1) := by decide +kernel
theorem d_Trial_init_88 : decode b_Trial_init 88 = .ok (.aload_n 1, 1) := by decide +kernel
theorem d_Trial_init_89 : decode b_Trial_init 89 = .ok (.invokespecial 57, 3) := by decide +kernel
theorem d_Trial_init_92 : decode b_Trial_init 92 = .ok (.putfield 60, 3) := by decide +kernel
theorem d_Trial_init_95 : decode b_Trial_init 95 = .ok (.return_, 1) := by decide +kernel
theorem d_Report_init_0 : decode b_Report_init 0 = .ok (.aload_n 0, 1) := by decide +kernel
theorem d_Report_init_1 : decode b_Report_init 1 = .ok (.invokespecial 3, 3) := by decide +kernel
theorem d_Report_init_4 : decode b_Report_init 4 = .ok (.aload_n 0, 1) := by decide +kernel
theorem d_Report_init_5 : decode b_Report_init 5 = .ok (.new 9, 3) := by decide +kernel
theorem d_Report_init_8 : decode b_Report_init 8 = .ok (.dup, 1) := by decide +kernel
theorem d_Report_init_9 : decode b_Report_init 9 = .ok (.bipush 60, 2) := by decide +kernel
theorem d_Report_init_11 : decode b_Report_init 11 = .ok (.invokespecial 11, 3) := by decide +kernel
theorem d_Report_init_14 : decode b_Report_init 14 = .ok (.putfield 14, 3) := by decide +kernel
theorem d_Report_init_17 : decode b_Report_init 17 = .ok (.aload_n 0, 1) := by decide +kernel
theorem d_Report_init_18 : decode b_Report_init 18 = .ok (.new 9, 3) := by decide +kernel
theorem d_Report_init_21 : decode b_Report_init 21 = .ok (.dup, 1) := by decide +kernel
theorem d_Report_init_22 : decode b_Report_init 22 = .ok (.bipush 60, 2) := by decide +kernel
theorem d_Report_init_24 : decode b_Report_init 24 = .ok (.invokespecial 11, 3) := by decide +kernel
theorem d_Report_init_27 : decode b_Report_init 27 = .ok (.putfield 20, 3) := by decide +kernel
theorem d_Report_init_30 : decode b_Report_init 30 = .ok (.aload_n 0, 1) := by decide +kernel
theorem d_Report_init_31 : decode b_Report_init 31 = .ok (.new 9, 3) := by decide +kernel
theorem d_Report_init_34 : decode b_Report_init 34 = .ok (.dup, 1) := by decide +kernel
theorem d_Report_init_35 : decode b_Report_init 35 = .ok (.bipush 60, 2) := by decide +kernel
theorem d_Report_init_37 : decode b_Report_init 37 = .ok (.invokespecial 11, 3) := by decide +kernel
theorem d_Report_init_40 : decode b_Report_init 40 = .ok (.putfield 23, 3) := by decide +kernel
theorem d_Report_init_43 : decode b_Report_init 43 = .ok (.aload_n 0, 1) := by decide +kernel
theorem d_Report_init_44 : decode b_Report_init 44 = .ok (.new 9, 3) := by decide +kernel
theorem d_Report_init_47 : decode b_Report_init 47 = .ok (.dup, 1) := by decide +kernel
theorem d_Report_init_48 : decode b_Report_init 48 = .ok (.bipush 40, 2) := by decide +kernel
theorem d_Report_init_50 : decode b_Report_init 50 = .ok (.invokespecial 11, 3) := by decide +kernel
theorem d_Report_init_53 : decode b_Report_init 53 = .ok (.putfield 26, 3) := by decide +kernel
theorem d_Report_init_56 : decode b_Report_init 56 = .ok (.aload_n 0, 1) := by decide +kernel
theorem d_Report_init_57 : decode b_Report_init 57 = .ok (.iconst (-1), 1) := by decide +kernel
theorem d_Report_init_58 : decode b_Report_init 58 = .ok (.putfield 29, 3) := by decide +kernel
theorem d_Report_init_61 : decode b_Report_init 61 = .ok (.aload_n 0, 1) := by decide +kernel
theorem d_Report_init_62 : decode b_Report_init 62 = .ok (.iconst (-1), 1) := by decide +kernel
theorem d_Report_init_63 : decode b_Report_init 63 = .ok (.putfield 33, 3) := by decide +kernel
theorem d_Report_init_66 : decode b_Report_init 66 = .ok (.aload_n 0, 1) := by decide +kernel
theorem d_Report_init_67 : decode b_Report_init 67 = .ok (.iconst (-1), 1) := by decide +kernel
theorem d_Report_init_68 : decode b_Report_init 68 = .ok (.putfield 36, 3) := by decide +kernel
theorem d_Report_init_71 : decode b_Report_init 71 = .ok (.return_, 1) := by decide +kernel
theorem d_G_init_0 : decode b_G_init 0 = .ok (.aload_n 0, 1) := by decide +kernel
theorem d_G_init_1 : decode b_G_init 1 = .ok (.invokespecial 1, 3) := by decide +kernel
theorem d_G_init_4 : decode b_G_init 4 = .ok (.aload_n 0, 1) := by decide +kernel
theorem d_G_init_5 : decode b_G_init 5 = .ok (.new 7, 3) := by decide +kernel
theorem d_G_init_8 : decode b_G_init 8 = .ok (.dup, 1) := by decide +kernel
theorem d_G_init_9 : decode b_G_init 9 = .ok (.invokespecial 9, 3) := by decide +kernel
theorem d_G_init_12 : decode b_G_init 12 = .ok (.putfield 10, 3) := by decide +kernel
theorem d_G_init_15 : decode b_G_init 15 = .ok (.aload_n 0, 1) := by decide +kernel
theorem d_G_init_16 : decode b_G_init 16 = .ok (.new 16, 3) := by decide +kernel
theorem d_G_init_19 : decode b_G_init 19 = .ok (.dup, 1) := by decide +kernel
theorem d_G_init_20 : decode b_G_init 20 = .ok (.invokespecial 18, 3) := by decide +kernel
theorem d_G_init_23 : decode b_G_init 23 = .ok (.putfield 19, 3) := by decide +kernel
theorem d_G_init_26 : decode b_G_init 26 = .ok (.aload_n 0, 1) := by decide +kernel
theorem d_G_init_27 : decode b_G_init 27 = .ok (.new 23, 3) := by decide +kernel
theorem d_G_init_30 : decode b_G_init 30 = .ok (.dup, 1) := by decide +kernel
theorem d_G_init_31 : decode b_G_init 31 = .ok (.invokespecial 25, 3) := by decide +kernel
theorem d_G_init_34 : decode b_G_init 34 = .ok (.putfield 26, 3) := by decide +kernel
theorem d_G_init_37 : decode b_G_init 37 = .ok (.aload_n 0, 1) := by decide +kernel
theorem d_G_init_38 : decode b_G_init 38 = .ok (.new 30, 3) := by decide +kernel
theorem d_G_init_41 : decode b_G_init 41 = .ok (.dup, 1) := by decide +kernel
theorem d_G_init_42 : decode b_G_init 42 = .ok (.invokespecial 32, 3) := by decide +kernel
theorem d_G_init_45 : decode b_G_init 45 = .ok (.putfield 33, 3) := by decide +kernel
theorem d_G_init_48 : decode b_G_init 48 = .ok (.aload_n 0, 1) := by decide +kernel
theorem d_G_init_49 : decode b_G_init 49 = .ok (.new 37, 3) := by decide +kernel
theorem d_G_init_52 : decode b_G_init 52 = .ok (.dup, 1) := by decide +kernel
theorem d_G_init_53 : decode b_G_init 53 = .ok (.bipush 60, 2) := by decide +kernel
theorem d_G_init_55 : decode b_G_init 55 = .ok (.invokespecial 39, 3) := by decide +kernel
theorem d_G_init_58 : decode b_G_init 58 = .ok (.putfield 42, 3) := by decide +kernel
theorem d_G_init_61 : decode b_G_init 61 = .ok (.aload_n 0, 1) := by decide +kernel
theorem d_G_init_62 : decode b_G_init 62 = .ok (.new 37, 3) := by decide +kernel
theorem d_G_init_65 : decode b_G_init 65 = .ok (.dup, 1) := by decide +kernel
theorem d_G_init_66 : decode b_G_init 66 = .ok (.bipush 60, 2) := by decide +kernel
theorem d_G_init_68 : decode b_G_init 68 = .ok (.invokespecial 39, 3) := by decide +kernel
theorem d_G_init_71 : decode b_G_init 71 = .ok (.putfield 46, 3) := by decide +kernel
theorem d_G_init_74 : decode b_G_init 74 = .ok (.aload_n 0, 1) := by decide +kernel
theorem d_G_init_75 : decode b_G_init 75 = .ok (.new 37, 3) := by decide +kernel
theorem d_G_init_78 : decode b_G_init 78 = .ok (.dup, 1) := by decide +kernel
theorem d_G_init_79 : decode b_G_init 79 = .ok (.bipush 60, 2) := by decide +kernel
theorem d_G_init_81 : decode b_G_init 81 = .ok (.invokespecial 39, 3) := by decide +kernel
theorem d_G_init_84 : decode b_G_init 84 = .ok (.putfield 49, 3) := by decide +kernel
theorem d_G_init_87 : decode b_G_init 87 = .ok (.aload_n 0, 1) := by decide +kernel
theorem d_G_init_88 : decode b_G_init 88 = .ok (.new 37, 3) := by decide +kernel
theorem d_G_init_91 : decode b_G_init 91 = .ok (.dup, 1) := by decide +kernel
theorem d_G_init_92 : decode b_G_init 92 = .ok (.bipush 60, 2) := by decide +kernel
theorem d_G_init_94 : decode b_G_init 94 = .ok (.invokespecial 39, 3) := by decide +kernel
theorem d_G_init_97 : decode b_G_init 97 = .ok (.putfield 52, 3) := by decide +kernel
theorem d_G_init_100 : decode b_G_init 100 = .ok (.aload_n 0, 1) := by decide +kernel
theorem d_G_init_101 : decode b_G_init 101 = .ok (.new 55, 3) := by decide +kernel
theorem d_G_init_104 : decode b_G_init 104 = .ok (.dup, 1) := by decide +kernel
theorem d_G_init_105 : decode b_G_init 105 = .ok (.aload_n 0, 1) := by decide +kernel
theorem d_G_init_106 : decode b_G_init 106 = .ok (.getfield 10, 3) := by decide +kernel
theorem d_G_init_109 : decode b_G_init 109 = .ok (.invokespecial 57, 3) := by decide +kernel
theorem d_G_init_112 : decode b_G_init 112 = .ok (.putfield 60, 3) := by decide +kernel
theorem d_G_init_115 : decode b_G_init 115 = .ok (.aload_n 0, 1) := by decide +kernel
theorem d_G_init_116 : decode b_G_init 116 = .ok (.new 64, 3) := by decide +kernel
theorem d_G_init_119 : decode b_G_init 119 = .ok (.dup, 1) := by decide +kernel
theorem d_G_init_120 : decode b_G_init 120 = .ok (.aload_n 0, 1) := by decide +kernel
theorem d_G_init_121 : decode b_G_init 121 = .ok (.getfield 10, 3) := by decide +kernel
theorem d_G_init_124 : decode b_G_init 124 = .ok (.aload_n 0, 1) := by decide +kernel
theorem d_G_init_125 : decode b_G_init 125 = .ok (.getfield 26, 3) := by decide +kernel
theorem d_G_init_128 : decode b_G_init 128 = .ok (.aload_n 0, 1) := by decide +kernel
theorem d_G_init_129 : decode b_G_init 129 = .ok (.getfield 33, 3) := by decide +kernel
theorem d_G_init_132 : decode b_G_init 132 = .ok (.aload_n 0, 1) := by decide +kernel
theorem d_G_init_133 : decode b_G_init 133 = .ok (.getfield 46, 3) := by decide +kernel
theorem d_G_init_136 : decode b_G_init 136 = .ok (.invokespecial 66, 3) := by decide +kernel
theorem d_G_init_139 : decode b_G_init 139 = .ok (.putfield 69, 3) := by decide +kernel
theorem d_G_init_142 : decode b_G_init 142 = .ok (.aload_n 0, 1) := by decide +kernel
theorem d_G_init_143 : decode b_G_init 143 = .ok (.new 73, 3) := by decide +kernel
theorem d_G_init_146 : decode b_G_init 146 = .ok (.dup, 1) := by decide +kernel
theorem d_G_init_147 : decode b_G_init 147 = .ok (.invokespecial 75, 3) := by decide +kernel
theorem d_G_init_150 : decode b_G_init 150 = .ok (.putfield 76, 3) := by decide +kernel
theorem d_G_init_153 : decode b_G_init 153 = .ok (.aload_n 0, 1) := by decide +kernel
theorem d_G_init_154 : decode b_G_init 154 = .ok (.iconst (-1), 1) := by decide +kernel
theorem d_G_init_155 : decode b_G_init 155 = .ok (.putfield 80, 3) := by decide +kernel
theorem d_G_init_158 : decode b_G_init 158 = .ok (.aload_n 0, 1) := by decide +kernel
theorem d_G_init_159 : decode b_G_init 159 = .ok (.iconst (-1), 1) := by decide +kernel
theorem d_G_init_160 : decode b_G_init 160 = .ok (.putfield 84, 3) := by decide +kernel
theorem d_G_init_163 : decode b_G_init 163 = .ok (.return_, 1) := by decide +kernel
theorem d_M_init_0 : decode b_M_init 0 = .ok (.aload_n 0, 1) := by decide +kernel
theorem d_M_init_1 : decode b_M_init 1 = .ok (.invokespecial 1, 3) := by decide +kernel
theorem d_M_init_4 : decode b_M_init 4 = .ok (.aload_n 0, 1) := by decide +kernel
theorem d_M_init_5 : decode b_M_init 5 = .ok (.bipush 60, 2) := by decide +kernel
theorem d_M_init_7 : decode b_M_init 7 = .ok (.newarray .int, 2) := by decide +kernel
theorem d_M_init_9 : decode b_M_init 9 = .ok (.putfield 7, 3) := by decide +kernel
theorem d_M_init_12 : decode b_M_init 12 = .ok (.aload_n 0, 1) := by decide +kernel
theorem d_M_init_13 : decode b_M_init 13 = .ok (.bipush 60, 2) := by decide +kernel
theorem d_M_init_15 : decode b_M_init 15 = .ok (.newarray .int, 2) := by decide +kernel
theorem d_M_init_17 : decode b_M_init 17 = .ok (.putfield 13, 3) := by decide +kernel
theorem d_M_init_20 : decode b_M_init 20 = .ok (.aload_n 0, 1) := by decide +kernel
theorem d_M_init_21 : decode b_M_init 21 = .ok (.bipush 60, 2) := by decide +kernel
theorem d_M_init_23 : decode b_M_init 23 = .ok (.newarray .int, 2) := by decide +kernel
theorem d_M_init_25 : decode b_M_init 25 = .ok (.putfield 16, 3) := by decide +kernel
theorem d_M_init_28 : decode b_M_init 28 = .ok (.aload_n 0, 1) := by decide +kernel
theorem d_M_init_29 : decode b_M_init 29 = .ok (.bipush 60, 2) := by decide +kernel
theorem d_M_init_31 : decode b_M_init 31 = .ok (.newarray .int, 2) := by decide +kernel
theorem d_M_init_33 : decode b_M_init 33 = .ok (.putfield 19, 3) := by decide +kernel
theorem d_M_init_36 : decode b_M_init 36 = .ok (.aload_n 0, 1) := by decide +kernel
theorem d_M_init_37 : decode b_M_init 37 = .ok (.bipush 60, 2) := by decide +kernel
theorem d_M_init_39 : decode b_M_init 39 = .ok (.newarray .boolean, 2) := by decide +kernel
theorem d_M_init_41 : decode b_M_init 41 = .ok (.putfield 22, 3) := by decide +kernel
theorem d_M_init_44 : decode b_M_init 44 = .ok (.aload_n 0, 1) := by decide +kernel
theorem d_M_init_45 : decode b_M_init 45 = .ok (.bipush 60, 2) := by decide +kernel
theorem d_M_init_47 : decode b_M_init 47 = .ok (.newarray .int, 2) := by decide +kernel
theorem d_M_init_49 : decode b_M_init 49 = .ok (.putfield 26, 3) := by decide +kernel
theorem d_M_init_52 : decode b_M_init 52 = .ok (.aload_n 0, 1) := by decide +kernel
theorem d_M_init_53 : decode b_M_init 53 = .ok (.sipush 480, 3) := by decide +kernel
theorem d_M_init_56 : decode b_M_init 56 = .ok (.newarray .int, 2) := by decide +kernel
theorem d_M_init_58 : decode b_M_init 58 = .ok (.putfield 29, 3) := by decide +kernel
theorem d_M_init_61 : decode b_M_init 61 = .ok (.aload_n 0, 1) := by decide +kernel
theorem d_M_init_62 : decode b_M_init 62 = .ok (.sipush 480, 3) := by decide +kernel
theorem d_M_init_65 : decode b_M_init 65 = .ok (.newarray .int, 2) := by decide +kernel
theorem d_M_init_67 : decode b_M_init 67 = .ok (.putfield 32, 3) := by decide +kernel
theorem d_M_init_70 : decode b_M_init 70 = .ok (.aload_n 0, 1) := by decide +kernel
theorem d_M_init_71 : decode b_M_init 71 = .ok (.bipush 40, 2) := by decide +kernel
theorem d_M_init_73 : decode b_M_init 73 = .ok (.newarray .int, 2) := by decide +kernel
theorem d_M_init_75 : decode b_M_init 75 = .ok (.putfield 35, 3) := by decide +kernel
theorem d_M_init_78 : decode b_M_init 78 = .ok (.aload_n 0, 1) := by decide +kernel
theorem d_M_init_79 : decode b_M_init 79 = .ok (.bipush 40, 2) := by decide +kernel
theorem d_M_init_81 : decode b_M_init 81 = .ok (.newarray .int, 2) := by decide +kernel
theorem d_M_init_83 : decode b_M_init 83 = .ok (.putfield 38, 3) := by decide +kernel
theorem d_M_init_86 : decode b_M_init 86 = .ok (.aload_n 0, 1) := by decide +kernel
theorem d_M_init_87 : decode b_M_init 87 = .ok (.sipush 160, 3) := by decide +kernel
theorem d_M_init_90 : decode b_M_init 90 = .ok (.newarray .int, 2) := by decide +kernel
theorem d_M_init_92 : decode b_M_init 92 = .ok (.putfield 41, 3) := by decide +kernel
theorem d_M_init_95 : decode b_M_init 95 = .ok (.aload_n 0, 1) := by decide +kernel
theorem d_M_init_96 : decode b_M_init 96 = .ok (.bipush 40, 2) := by decide +kernel
theorem d_M_init_98 : decode b_M_init 98 = .ok (.newarray .int, 2) := by decide +kernel
theorem d_M_init_100 : decode b_M_init 100 = .ok (.putfield 44, 3) := by decide +kernel
theorem d_M_init_103 : decode b_M_init 103 = .ok (.aload_n 0, 1) := by decide +kernel
theorem d_M_init_104 : decode b_M_init 104 = .ok (.bipush 40, 2) := by decide +kernel
theorem d_M_init_106 : decode b_M_init 106 = .ok (.newarray .int, 2) := by decide +kernel
theorem d_M_init_108 : decode b_M_init 108 = .ok (.putfield 47, 3) := by decide +kernel
theorem d_M_init_111 : decode b_M_init 111 = .ok (.aload_n 0, 1) := by decide +kernel
theorem d_M_init_112 : decode b_M_init 112 = .ok (.bipush 40, 2) := by decide +kernel
theorem d_M_init_114 : decode b_M_init 114 = .ok (.newarray .int, 2) := by decide +kernel
theorem d_M_init_116 : decode b_M_init 116 = .ok (.putfield 50, 3) := by decide +kernel
theorem d_M_init_119 : decode b_M_init 119 = .ok (.aload_n 0, 1) := by decide +kernel
theorem d_M_init_120 : decode b_M_init 120 = .ok (.bipush 60, 2) := by decide +kernel
theorem d_M_init_122 : decode b_M_init 122 = .ok (.newarray .int, 2) := by decide +kernel
theorem d_M_init_124 : decode b_M_init 124 = .ok (.putfield 53, 3) := by decide +kernel
theorem d_M_init_127 : decode b_M_init 127 = .ok (.aload_n 0, 1) := by decide +kernel
theorem d_M_init_128 : decode b_M_init 128 = .ok (.bipush 60, 2) := by decide +kernel
theorem d_M_init_130 : decode b_M_init 130 = .ok (.newarray .int, 2) := by decide +kernel
theorem d_M_init_132 : decode b_M_init 132 = .ok (.putfield 56, 3) := by decide +kernel
theorem d_M_init_135 : decode b_M_init 135 = .ok (.aload_n 0, 1) := by decide +kernel
theorem d_M_init_136 : decode b_M_init 136 = .ok (.bipush 8, 2) := by decide +kernel
theorem d_M_init_138 : decode b_M_init 138 = .ok (.newarray .int, 2) := by decide +kernel
theorem d_M_init_140 : decode b_M_init 140 = .ok (.putfield 59, 3) := by decide +kernel
theorem d_M_init_143 : decode b_M_init 143 = .ok (.aload_n 0, 1) := by decide +kernel
theorem d_M_init_144 : decode b_M_init 144 = .ok (.bipush 8, 2) := by decide +kernel
theorem d_M_init_146 : decode b_M_init 146 = .ok (.newarray .int, 2) := by decide +kernel
theorem d_M_init_148 : decode b_M_init 148 = .ok (.putfield 62, 3) := by decide +kernel
theorem d_M_init_151 : decode b_M_init 151 = .ok (.aload_n 0, 1) := by decide +kernel
theorem d_M_init_152 : decode b_M_init 152 = .ok (.iconst 2, 1) := by decide +kernel
theorem d_M_init_153 : decode b_M_init 153 = .ok (.newarray .int, 2) := by decide +kernel
theorem d_M_init_155 : decode b_M_init 155 = .ok (.putfield 65, 3) := by decide +kernel
theorem d_M_init_158 : decode b_M_init 158 = .ok (.aload_n 0, 1) := by decide +kernel
theorem d_M_init_159 : decode b_M_init 159 = .ok (.iconst 2, 1) := by decide +kernel
theorem d_M_init_160 : decode b_M_init 160 = .ok (.newarray .int, 2) := by decide +kernel
theorem d_M_init_162 : decode b_M_init 162 = .ok (.putfield 68, 3) := by decide +kernel
theorem d_M_init_165 : decode b_M_init 165 = .ok (.aload_n 0, 1) := by decide +kernel
theorem d_M_init_166 : decode b_M_init 166 = .ok (.iconst 2, 1) := by decide +kernel
theorem d_M_init_167 : decode b_M_init 167 = .ok (.newarray .long, 2) := by decide +kernel
theorem d_M_init_169 : decode b_M_init 169 = .ok (.putfield 71, 3) := by decide +kernel
theorem d_M_init_172 : decode b_M_init 172 = .ok (.aload_n 0, 1) := by decide +kernel
theorem d_M_init_173 : decode b_M_init 173 = .ok (.iconst 2, 1) := by decide +kernel
theorem d_M_init_174 : decode b_M_init 174 = .ok (.newarray .int, 2) := by decide +kernel
theorem d_M_init_176 : decode b_M_init 176 = .ok (.putfield 75, 3) := by decide +kernel
theorem d_M_init_179 : decode b_M_init 179 = .ok (.aload_n 0, 1) := by decide +kernel
theorem d_M_init_180 : decode b_M_init 180 = .ok (.iconst 2, 1) := by decide +kernel
theorem d_M_init_181 : decode b_M_init 181 = .ok (.newarray .int, 2) := by decide +kernel
theorem d_M_init_183 : decode b_M_init 183 = .ok (.putfield 78, 3) := by decide +kernel
theorem d_M_init_186 : decode b_M_init 186 = .ok (.aload_n 0, 1) := by decide +kernel
theorem d_M_init_187 : decode b_M_init 187 = .ok (.iconst 2, 1) := by decide +kernel
theorem d_M_init_188 : decode b_M_init 188 = .ok (.newarray .int, 2) := by decide +kernel
theorem d_M_init_190 : decode b_M_init 190 = .ok (.putfield 81, 3) := by decide +kernel
theorem d_M_init_193 : decode b_M_init 193 = .ok (.aload_n 0, 1) := by decide +kernel
theorem d_M_init_194 : decode b_M_init 194 = .ok (.bipush 60, 2) := by decide +kernel
theorem d_M_init_196 : decode b_M_init 196 = .ok (.newarray .int, 2) := by decide +kernel
theorem d_M_init_198 : decode b_M_init 198 = .ok (.putfield 84, 3) := by decide +kernel
theorem d_M_init_201 : decode b_M_init 201 = .ok (.aload_n 0, 1) := by decide +kernel
theorem d_M_init_202 : decode b_M_init 202 = .ok (.bipush 60, 2) := by decide +kernel
theorem d_M_init_204 : decode b_M_init 204 = .ok (.newarray .int, 2) := by decide +kernel
theorem d_M_init_206 : decode b_M_init 206 = .ok (.putfield 87, 3) := by decide +kernel
theorem d_M_init_209 : decode b_M_init 209 = .ok (.aload_n 0, 1) := by decide +kernel
theorem d_M_init_210 : decode b_M_init 210 = .ok (.bipush 60, 2) := by decide +kernel
theorem d_M_init_212 : decode b_M_init 212 = .ok (.newarray .int, 2) := by decide +kernel
theorem d_M_init_214 : decode b_M_init 214 = .ok (.putfield 90, 3) := by decide +kernel
theorem d_M_init_217 : decode b_M_init 217 = .ok (.aload_n 0, 1) := by decide +kernel
theorem d_M_init_218 : decode b_M_init 218 = .ok (.bipush 60, 2) := by decide +kernel
theorem d_M_init_220 : decode b_M_init 220 = .ok (.newarray .int, 2) := by decide +kernel
theorem d_M_init_222 : decode b_M_init 222 = .ok (.putfield 93, 3) := by decide +kernel
theorem d_M_init_225 : decode b_M_init 225 = .ok (.aload_n 0, 1) := by decide +kernel
theorem d_M_init_226 : decode b_M_init 226 = .ok (.bipush 60, 2) := by decide +kernel
theorem d_M_init_228 : decode b_M_init 228 = .ok (.newarray .int, 2) := by decide +kernel
theorem d_M_init_230 : decode b_M_init 230 = .ok (.putfield 96, 3) := by decide +kernel
theorem d_M_init_233 : decode b_M_init 233 = .ok (.aload_n 0, 1) := by decide +kernel
theorem d_M_init_234 : decode b_M_init 234 = .ok (.iconst (-1), 1) := by decide +kernel
theorem d_M_init_235 : decode b_M_init 235 = .ok (.putfield 99, 3) := by decide +kernel
theorem d_M_init_238 : decode b_M_init 238 = .ok (.aload_n 0, 1) := by decide +kernel
theorem d_M_init_239 : decode b_M_init 239 = .ok (.iconst (-1), 1) := by decide +kernel
theorem d_M_init_240 : decode b_M_init 240 = .ok (.putfield 103, 3) := by decide +kernel
theorem d_M_init_243 : decode b_M_init 243 = .ok (.aload_n 0, 1) := by decide +kernel
theorem d_M_init_244 : decode b_M_init 244 = .ok (.iconst (-1), 1) := by decide +kernel
theorem d_M_init_245 : decode b_M_init 245 = .ok (.putfield 106, 3) := by decide +kernel
theorem d_M_init_248 : decode b_M_init 248 = .ok (.aload_n 0, 1) := by decide +kernel
theorem d_M_init_249 : decode b_M_init 249 = .ok (.iconst (-1), 1) := by decide +kernel
theorem d_M_init_250 : decode b_M_init 250 = .ok (.putfield 109, 3) := by decide +kernel
theorem d_M_init_253 : decode b_M_init 253 = .ok (.return_, 1) := by decide +kernel
theorem d_L_law_0 : decode b_L_law 0 = .ok (.new 7, 3) := by decide +kernel
theorem d_L_law_3 : decode b_L_law 3 = .ok (.dup, 1) := by decide +kernel
theorem d_L_law_4 : decode b_L_law 4 = .ok (.invokespecial 9, 3) := by decide +kernel
theorem d_L_law_7 : decode b_L_law 7 = .ok (.astore_n 1, 1) := by decide +kernel
theorem d_L_law_8 : decode b_L_law 8 = .ok (.new 10, 3) := by decide +kernel
theorem d_L_law_11 : decode b_L_law 11 = .ok (.dup, 1) := by decide +kernel
theorem d_L_law_12 : decode b_L_law 12 = .ok (.invokespecial 12, 3) := by decide +kernel
theorem d_L_law_15 : decode b_L_law 15 = .ok (.astore_n 2, 1) := by decide +kernel
theorem d_L_law_16 : decode b_L_law 16 = .ok (.iconst 0, 1) := by decide +kernel
theorem d_L_law_17 : decode b_L_law 17 = .ok (.istore_n 3, 1) := by decide +kernel
theorem d_L_law_18 : decode b_L_law 18 = .ok (.iload_n 3, 1) := by decide +kernel
theorem d_L_law_19 : decode b_L_law 19 = .ok (.aload_n 0, 1) := by decide +kernel
theorem d_L_law_20 : decode b_L_law 20 = .ok (.arraylength, 1) := by decide +kernel
theorem d_L_law_21 : decode b_L_law 21 = .ok (.iconst 4, 1) := by decide +kernel
theorem d_L_law_22 : decode b_L_law 22 = .ok (.isub, 1) := by decide +kernel
theorem d_L_law_23 : decode b_L_law 23 = .ok (.if_icmp .gt 633, 3) := by decide +kernel
theorem d_L_law_26 : decode b_L_law 26 = .ok (.aload_n 0, 1) := by decide +kernel
theorem d_L_law_27 : decode b_L_law 27 = .ok (.iload_n 3, 1) := by decide +kernel
theorem d_L_law_28 : decode b_L_law 28 = .ok (.iaload, 1) := by decide +kernel
theorem d_L_law_29 : decode b_L_law 29 = .ok (.bipush 31, 2) := by decide +kernel
theorem d_L_law_31 : decode b_L_law 31 = .ok (.iand, 1) := by decide +kernel
theorem d_L_law_32 : decode b_L_law 32 = .ok (.tableswitch 618 0 17 #[88, 111, 144, 203, 246, 269, 302, 335, 378, 401, 414, 427, 450, 483, 506, 529, 552, 585], 88) := by decide +kernel
theorem d_L_law_120 : decode b_L_law 120 = .ok (.aload_n 1, 1) := by decide +kernel
theorem d_L_law_121 : decode b_L_law 121 = .ok (.aload_n 0, 1) := by decide +kernel
theorem d_L_law_122 : decode b_L_law 122 = .ok (.iload_n 3, 1) := by decide +kernel
theorem d_L_law_123 : decode b_L_law 123 = .ok (.iconst 1, 1) := by decide +kernel
theorem d_L_law_124 : decode b_L_law 124 = .ok (.iadd, 1) := by decide +kernel
theorem d_L_law_125 : decode b_L_law 125 = .ok (.iaload, 1) := by decide +kernel
theorem d_L_law_126 : decode b_L_law 126 = .ok (.invokevirtual 13, 3) := by decide +kernel
theorem d_L_law_129 : decode b_L_law 129 = .ok (.aload_n 2, 1) := by decide +kernel
theorem d_L_law_130 : decode b_L_law 130 = .ok (.aload_n 0, 1) := by decide +kernel
theorem d_L_law_131 : decode b_L_law 131 = .ok (.iload_n 3, 1) := by decide +kernel
theorem d_L_law_132 : decode b_L_law 132 = .ok (.iconst 1, 1) := by decide +kernel
theorem d_L_law_133 : decode b_L_law 133 = .ok (.iadd, 1) := by decide +kernel
theorem d_L_law_134 : decode b_L_law 134 = .ok (.iaload, 1) := by decide +kernel
theorem d_L_law_135 : decode b_L_law 135 = .ok (.invokevirtual 17, 3) := by decide +kernel
theorem d_L_law_138 : decode b_L_law 138 = .ok (.if_icmp .eq 512, 3) := by decide +kernel
theorem d_L_law_141 : decode b_L_law 141 = .ok (.iconst 0, 1) := by decide +kernel
theorem d_L_law_142 : decode b_L_law 142 = .ok (.ireturn, 1) := by decide +kernel
theorem d_L_law_143 : decode b_L_law 143 = .ok (.aload_n 1, 1) := by decide +kernel
theorem d_L_law_144 : decode b_L_law 144 = .ok (.aload_n 0, 1) := by decide +kernel
theorem d_L_law_145 : decode b_L_law 145 = .ok (.iload_n 3, 1) := by decide +kernel
theorem d_L_law_146 : decode b_L_law 146 = .ok (.iconst 1, 1) := by decide +kernel
theorem d_L_law_147 : decode b_L_law 147 = .ok (.iadd, 1) := by decide +kernel
theorem d_L_law_148 : decode b_L_law 148 = .ok (.iaload, 1) := by decide +kernel
theorem d_L_law_149 : decode b_L_law 149 = .ok (.aload_n 0, 1) := by decide +kernel
theorem d_L_law_150 : decode b_L_law 150 = .ok (.iload_n 3, 1) := by decide +kernel
theorem d_L_law_151 : decode b_L_law 151 = .ok (.iconst 2, 1) := by decide +kernel
theorem d_L_law_152 : decode b_L_law 152 = .ok (.iadd, 1) := by decide +kernel
theorem d_L_law_153 : decode b_L_law 153 = .ok (.iaload, 1) := by decide +kernel
theorem d_L_law_154 : decode b_L_law 154 = .ok (.invokevirtual 18, 3) := by decide +kernel
theorem d_L_law_157 : decode b_L_law 157 = .ok (.aload_n 2, 1) := by decide +kernel
theorem d_L_law_158 : decode b_L_law 158 = .ok (.aload_n 0, 1) := by decide +kernel
theorem d_L_law_159 : decode b_L_law 159 = .ok (.iload_n 3, 1) := by decide +kernel
theorem d_L_law_160 : decode b_L_law 160 = .ok (.iconst 1, 1) := by decide +kernel
theorem d_L_law_161 : decode b_L_law 161 = .ok (.iadd, 1) := by decide +kernel
theorem d_L_law_162 : decode b_L_law 162 = .ok (.iaload, 1) := by decide +kernel
theorem d_L_law_163 : decode b_L_law 163 = .ok (.aload_n 0, 1) := by decide +kernel
theorem d_L_law_164 : decode b_L_law 164 = .ok (.iload_n 3, 1) := by decide +kernel
theorem d_L_law_165 : decode b_L_law 165 = .ok (.iconst 2, 1) := by decide +kernel
theorem d_L_law_166 : decode b_L_law 166 = .ok (.iadd, 1) := by decide +kernel
theorem d_L_law_167 : decode b_L_law 167 = .ok (.iaload, 1) := by decide +kernel
theorem d_L_law_168 : decode b_L_law 168 = .ok (.invokevirtual 22, 3) := by decide +kernel
theorem d_L_law_171 : decode b_L_law 171 = .ok (.if_icmp .eq 479, 3) := by decide +kernel
theorem d_L_law_174 : decode b_L_law 174 = .ok (.iconst 0, 1) := by decide +kernel
theorem d_L_law_175 : decode b_L_law 175 = .ok (.ireturn, 1) := by decide +kernel
theorem d_L_law_176 : decode b_L_law 176 = .ok (.aload_n 1, 1) := by decide +kernel
theorem d_L_law_177 : decode b_L_law 177 = .ok (.aload_n 0, 1) := by decide +kernel
theorem d_L_law_178 : decode b_L_law 178 = .ok (.iload_n 3, 1) := by decide +kernel
theorem d_L_law_179 : decode b_L_law 179 = .ok (.iconst 1, 1) := by decide +kernel
theorem d_L_law_180 : decode b_L_law 180 = .ok (.iadd, 1) := by decide +kernel
theorem d_L_law_181 : decode b_L_law 181 = .ok (.iaload, 1) := by decide +kernel
theorem d_L_law_182 : decode b_L_law 182 = .ok (.aload_n 0, 1) := by decide +kernel
theorem d_L_law_183 : decode b_L_law 183 = .ok (.iload_n 3, 1) := by decide +kernel
theorem d_L_law_184 : decode b_L_law 184 = .ok (.iconst 2, 1) := by decide +kernel
theorem d_L_law_185 : decode b_L_law 185 = .ok (.iadd, 1) := by decide +kernel
theorem d_L_law_186 : decode b_L_law 186 = .ok (.iaload, 1) := by decide +kernel
theorem d_L_law_187 : decode b_L_law 187 = .ok (.aload_n 0, 1) := by decide +kernel
theorem d_L_law_188 : decode b_L_law 188 = .ok (.iload_n 3, 1) := by decide +kernel
theorem d_L_law_189 : decode b_L_law 189 = .ok (.iconst 3, 1) := by decide +kernel
theorem d_L_law_190 : decode b_L_law 190 = .ok (.iadd, 1) := by decide +kernel
theorem d_L_law_191 : decode b_L_law 191 = .ok (.iaload, 1) := by decide +kernel
theorem d_L_law_192 : decode b_L_law 192 = .ok (.ifCond .eq 7, 3) := by decide +kernel
theorem d_L_law_195 : decode b_L_law 195 = .ok (.iconst 1, 1) := by decide +kernel
theorem d_L_law_196 : decode b_L_law 196 = .ok (.goto 4, 3) := by decide +kernel
theorem d_L_law_199 : decode b_L_law 199 = .ok (.iconst 0, 1) := by decide +kernel
theorem d_L_law_200 : decode b_L_law 200 = .ok (.invokevirtual 23, 3) := by decide +kernel
theorem d_L_law_203 : decode b_L_law 203 = .ok (.aload_n 2, 1) := by decide +kernel
theorem d_L_law_204 : decode b_L_law 204 = .ok (.aload_n 0, 1) := by decide +kernel
theorem d_L_law_205 : decode b_L_law 205 = .ok (.iload_n 3, 1) := by decide +kernel
theorem d_L_law_206 : decode b_L_law 206 = .ok (.iconst 1, 1) := by decide +kernel
theorem d_L_law_207 : decode b_L_law 207 = .ok (.iadd, 1) := by decide +kernel
theorem d_L_law_208 : decode b_L_law 208 = .ok (.iaload, 1) := by decide +kernel
theorem d_L_law_209 : decode b_L_law 209 = .ok (.aload_n 0, 1) := by decide +kernel
theorem d_L_law_210 : decode b_L_law 210 = .ok (.iload_n 3, 1) := by decide +kernel
theorem d_L_law_211 : decode b_L_law 211 = .ok (.iconst 2, 1) := by decide +kernel
theorem d_L_law_212 : decode b_L_law 212 = .ok (.iadd, 1) := by decide +kernel
theorem d_L_law_213 : decode b_L_law 213 = .ok (.iaload, 1) := by decide +kernel
theorem d_L_law_214 : decode b_L_law 214 = .ok (.aload_n 0, 1) := by decide +kernel
theorem d_L_law_215 : decode b_L_law 215 = .ok (.iload_n 3, 1) := by decide +kernel
theorem d_L_law_216 : decode b_L_law 216 = .ok (.iconst 3, 1) := by decide +kernel
theorem d_L_law_217 : decode b_L_law 217 = .ok (.iadd, 1) := by decide +kernel
theorem d_L_law_218 : decode b_L_law 218 = .ok (.iaload, 1) := by decide +kernel
theorem d_L_law_219 : decode b_L_law 219 = .ok (.ifCond .eq 7, 3) := by decide +kernel
theorem d_L_law_222 : decode b_L_law 222 = .ok (.iconst 1, 1) := by decide +kernel
theorem d_L_law_223 : decode b_L_law 223 = .ok (.goto 4, 3) := by decide +kernel
theorem d_L_law_226 : decode b_L_law 226 = .ok (.iconst 0, 1) := by decide +kernel
theorem d_L_law_227 : decode b_L_law 227 = .ok (.invokevirtual 27, 3) := by decide +kernel
theorem d_L_law_230 : decode b_L_law 230 = .ok (.if_icmp .eq 420, 3) := by decide +kernel
theorem d_L_law_233 : decode b_L_law 233 = .ok (.iconst 0, 1) := by decide +kernel
theorem d_L_law_234 : decode b_L_law 234 = .ok (.ireturn, 1) := by decide +kernel
theorem d_L_law_235 : decode b_L_law 235 = .ok (.aload_n 1, 1) := by decide +kernel
theorem d_L_law_236 : decode b_L_law 236 = .ok (.aload_n 0, 1) := by decide +kernel
theorem d_L_law_237 : decode b_L_law 237 = .ok (.iload_n 3, 1) := by decide +kernel
theorem d_L_law_238 : decode b_L_law 238 = .ok (.iconst 1, 1) := by decide +kernel
theorem d_L_law_239 : decode b_L_law 239 = .ok (.iadd, 1) := by decide +kernel
theorem d_L_law_240 : decode b_L_law 240 = .ok (.iaload, 1) := by decide +kernel
theorem d_L_law_241 : decode b_L_law 241 = .ok (.aload_n 0, 1) := by decide +kernel
theorem d_L_law_242 : decode b_L_law 242 = .ok (.iload_n 3, 1) := by decide +kernel
theorem d_L_law_243 : decode b_L_law 243 = .ok (.iconst 2, 1) := by decide +kernel
theorem d_L_law_244 : decode b_L_law 244 = .ok (.iadd, 1) := by decide +kernel
theorem d_L_law_245 : decode b_L_law 245 = .ok (.iaload, 1) := by decide +kernel
theorem d_L_law_246 : decode b_L_law 246 = .ok (.aload_n 0, 1) := by decide +kernel
theorem d_L_law_247 : decode b_L_law 247 = .ok (.iload_n 3, 1) := by decide +kernel
theorem d_L_law_248 : decode b_L_law 248 = .ok (.iconst 3, 1) := by decide +kernel
theorem d_L_law_249 : decode b_L_law 249 = .ok (.iadd, 1) := by decide +kernel
theorem d_L_law_250 : decode b_L_law 250 = .ok (.iaload, 1) := by decide +kernel
theorem d_L_law_251 : decode b_L_law 251 = .ok (.invokevirtual 28, 3) := by decide +kernel
theorem d_L_law_254 : decode b_L_law 254 = .ok (.aload_n 2, 1) := by decide +kernel
theorem d_L_law_255 : decode b_L_law 255 = .ok (.aload_n 0, 1) := by decide +kernel
theorem d_L_law_256 : decode b_L_law 256 = .ok (.iload_n 3, 1) := by decide +kernel
theorem d_L_law_257 : decode b_L_law 257 = .ok (.iconst 1, 1) := by decide +kernel
theorem d_L_law_258 : decode b_L_law 258 = .ok (.iadd, 1) := by decide +kernel
theorem d_L_law_259 : decode b_L_law 259 = .ok (.iaload, 1) := by decide +kernel
theorem d_L_law_260 : decode b_L_law 260 = .ok (.aload_n 0, 1) := by decide +kernel
theorem d_L_law_261 : decode b_L_law 261 = .ok (.iload_n 3, 1) := by decide +kernel
theorem d_L_law_262 : decode b_L_law 262 = .ok (.iconst 2, 1) := by decide +kernel
theorem d_L_law_263 : decode b_L_law 263 = .ok (.iadd, 1) := by decide +kernel
theorem d_L_law_264 : decode b_L_law 264 = .ok (.iaload, 1) := by decide +kernel
theorem d_L_law_265 : decode b_L_law 265 = .ok (.aload_n 0, 1) := by decide +kernel
theorem d_L_law_266 : decode b_L_law 266 = .ok (.iload_n 3, 1) := by decide +kernel
theorem d_L_law_267 : decode b_L_law 267 = .ok (.iconst 3, 1) := by decide +kernel
theorem d_L_law_268 : decode b_L_law 268 = .ok (.iadd, 1) := by decide +kernel
theorem d_L_law_269 : decode b_L_law 269 = .ok (.iaload, 1) := by decide +kernel
theorem d_L_law_270 : decode b_L_law 270 = .ok (.invokevirtual 32, 3) := by decide +kernel
theorem d_L_law_273 : decode b_L_law 273 = .ok (.if_icmp .eq 377, 3) := by decide +kernel
theorem d_L_law_276 : decode b_L_law 276 = .ok (.iconst 0, 1) := by decide +kernel
theorem d_L_law_277 : decode b_L_law 277 = .ok (.ireturn, 1) := by decide +kernel
theorem d_L_law_278 : decode b_L_law 278 = .ok (.aload_n 1, 1) := by decide +kernel
theorem d_L_law_279 : decode b_L_law 279 = .ok (.aload_n 0, 1) := by decide +kernel
theorem d_L_law_280 : decode b_L_law 280 = .ok (.iload_n 3, 1) := by decide +kernel
theorem d_L_law_281 : decode b_L_law 281 = .ok (.iconst 1, 1) := by decide +kernel
theorem d_L_law_282 : decode b_L_law 282 = .ok (.iadd, 1) := by decide +kernel
theorem d_L_law_283 : decode b_L_law 283 = .ok (.iaload, 1) := by decide +kernel
theorem d_L_law_284 : decode b_L_law 284 = .ok (.invokevirtual 33, 3) := by decide +kernel
theorem d_L_law_287 : decode b_L_law 287 = .ok (.aload_n 2, 1) := by decide +kernel
theorem d_L_law_288 : decode b_L_law 288 = .ok (.aload_n 0, 1) := by decide +kernel
theorem d_L_law_289 : decode b_L_law 289 = .ok (.iload_n 3, 1) := by decide +kernel
theorem d_L_law_290 : decode b_L_law 290 = .ok (.iconst 1, 1) := by decide +kernel
theorem d_L_law_291 : decode b_L_law 291 = .ok (.iadd, 1) := by decide +kernel
theorem d_L_law_292 : decode b_L_law 292 = .ok (.iaload, 1) := by decide +kernel
theorem d_L_law_293 : decode b_L_law 293 = .ok (.invokevirtual 36, 3) := by decide +kernel
theorem d_L_law_296 : decode b_L_law 296 = .ok (.if_icmp .eq 354, 3) := by decide +kernel
theorem d_L_law_299 : decode b_L_law 299 = .ok (.iconst 0, 1) := by decide +kernel
theorem d_L_law_300 : decode b_L_law 300 = .ok (.ireturn, 1) := by decide +kernel
theorem d_L_law_301 : decode b_L_law 301 = .ok (.aload_n 1, 1) := by decide +kernel
theorem d_L_law_302 : decode b_L_law 302 = .ok (.aload_n 0, 1) := by decide +kernel
theorem d_L_law_303 : decode b_L_law 303 = .ok (.iload_n 3, 1) := by decide +kernel
theorem d_L_law_304 : decode b_L_law 304 = .ok (.iconst 1, 1) := by decide +kernel
theorem d_L_law_305 : decode b_L_law 305 = .ok (.iadd, 1) := by decide +kernel
theorem d_L_law_306 : decode b_L_law 306 = .ok (.iaload, 1) := by decide +kernel
theorem d_L_law_307 : decode b_L_law 307 = .ok (.aload_n 0, 1) := by decide +kernel
theorem d_L_law_308 : decode b_L_law 308 = .ok (.iload_n 3, 1) := by decide +kernel
theorem d_L_law_309 : decode b_L_law 309 = .ok (.iconst 2, 1) := by decide +kernel
theorem d_L_law_310 : decode b_L_law 310 = .ok (.iadd, 1) := by decide +kernel
theorem d_L_law_311 : decode b_L_law 311 = .ok (.iaload, 1) := by decide +kernel
theorem d_L_law_312 : decode b_L_law 312 = .ok (.invokevirtual 37, 3) := by decide +kernel
theorem d_L_law_315 : decode b_L_law 315 = .ok (.aload_n 2, 1) := by decide +kernel
theorem d_L_law_316 : decode b_L_law 316 = .ok (.aload_n 0, 1) := by decide +kernel
theorem d_L_law_317 : decode b_L_law 317 = .ok (.iload_n 3, 1) := by decide +kernel
theorem d_L_law_318 : decode b_L_law 318 = .ok (.iconst 1, 1) := by decide +kernel
theorem d_L_law_319 : decode b_L_law 319 = .ok (.iadd, 1) := by decide +kernel
theorem d_L_law_320 : decode b_L_law 320 = .ok (.iaload, 1) := by decide +kernel
theorem d_L_law_321 : decode b_L_law 321 = .ok (.aload_n 0, 1) := by decide +kernel
theorem d_L_law_322 : decode b_L_law 322 = .ok (.iload_n 3, 1) := by decide +kernel
theorem d_L_law_323 : decode b_L_law 323 = .ok (.iconst 2, 1) := by decide +kernel
theorem d_L_law_324 : decode b_L_law 324 = .ok (.iadd, 1) := by decide +kernel
theorem d_L_law_325 : decode b_L_law 325 = .ok (.iaload, 1) := by decide +kernel
theorem d_L_law_326 : decode b_L_law 326 = .ok (.invokevirtual 40, 3) := by decide +kernel
theorem d_L_law_329 : decode b_L_law 329 = .ok (.if_icmp .eq 321, 3) := by decide +kernel
theorem d_L_law_332 : decode b_L_law 332 = .ok (.iconst 0, 1) := by decide +kernel
theorem d_L_law_333 : decode b_L_law 333 = .ok (.ireturn, 1) := by decide +kernel
theorem d_L_law_334 : decode b_L_law 334 = .ok (.aload_n 1, 1) := by decide +kernel
theorem d_L_law_335 : decode b_L_law 335 = .ok (.aload_n 0, 1) := by decide +kernel
theorem d_L_law_336 : decode b_L_law 336 = .ok (.iload_n 3, 1) := by decide +kernel
theorem d_L_law_337 : decode b_L_law 337 = .ok (.iconst 1, 1) := by decide +kernel
theorem d_L_law_338 : decode b_L_law 338 = .ok (.iadd, 1) := by decide +kernel
theorem d_L_law_339 : decode b_L_law 339 = .ok (.iaload, 1) := by decide +kernel
theorem d_L_law_340 : decode b_L_law 340 = .ok (.aload_n 0, 1) := by decide +kernel
theorem d_L_law_341 : decode b_L_law 341 = .ok (.iload_n 3, 1) := by decide +kernel
theorem d_L_law_342 : decode b_L_law 342 = .ok (.iconst 2, 1) := by decide +kernel
theorem d_L_law_343 : decode b_L_law 343 = .ok (.iadd, 1) := by decide +kernel
theorem d_L_law_344 : decode b_L_law 344 = .ok (.iaload, 1) := by decide +kernel
theorem d_L_law_345 : decode b_L_law 345 = .ok (.invokevirtual 41, 3) := by decide +kernel
theorem d_L_law_348 : decode b_L_law 348 = .ok (.aload_n 2, 1) := by decide +kernel
theorem d_L_law_349 : decode b_L_law 349 = .ok (.aload_n 0, 1) := by decide +kernel
theorem d_L_law_350 : decode b_L_law 350 = .ok (.iload_n 3, 1) := by decide +kernel
theorem d_L_law_351 : decode b_L_law 351 = .ok (.iconst 1, 1) := by decide +kernel
theorem d_L_law_352 : decode b_L_law 352 = .ok (.iadd, 1) := by decide +kernel
theorem d_L_law_353 : decode b_L_law 353 = .ok (.iaload, 1) := by decide +kernel
theorem d_L_law_354 : decode b_L_law 354 = .ok (.aload_n 0, 1) := by decide +kernel
theorem d_L_law_355 : decode b_L_law 355 = .ok (.iload_n 3, 1) := by decide +kernel
theorem d_L_law_356 : decode b_L_law 356 = .ok (.iconst 2, 1) := by decide +kernel
theorem d_L_law_357 : decode b_L_law 357 = .ok (.iadd, 1) := by decide +kernel
theorem d_L_law_358 : decode b_L_law 358 = .ok (.iaload, 1) := by decide +kernel
theorem d_L_law_359 : decode b_L_law 359 = .ok (.invokevirtual 44, 3) := by decide +kernel
theorem d_L_law_362 : decode b_L_law 362 = .ok (.if_icmp .eq 288, 3) := by decide +kernel
theorem d_L_law_365 : decode b_L_law 365 = .ok (.iconst 0, 1) := by decide +kernel
theorem d_L_law_366 : decode b_L_law 366 = .ok (.ireturn, 1) := by decide +kernel
theorem d_L_law_367 : decode b_L_law 367 = .ok (.aload_n 1, 1) := by decide +kernel
theorem d_L_law_368 : decode b_L_law 368 = .ok (.aload_n 0, 1) := by decide +kernel
theorem d_L_law_369 : decode b_L_law 369 = .ok (.iload_n 3, 1) := by decide +kernel
theorem d_L_law_370 : decode b_L_law 370 = .ok (.iconst 1, 1) := by decide +kernel
theorem d_L_law_371 : decode b_L_law 371 = .ok (.iadd, 1) := by decide +kernel
theorem d_L_law_372 : decode b_L_law 372 = .ok (.iaload, 1) := by decide +kernel
theorem d_L_law_373 : decode b_L_law 373 = .ok (.aload_n 0, 1) := by decide +kernel
theorem d_L_law_374 : decode b_L_law 374 = .ok (.iload_n 3, 1) := by decide +kernel
theorem d_L_law_375 : decode b_L_law 375 = .ok (.iconst 2, 1) := by decide +kernel
theorem d_L_law_376 : decode b_L_law 376 = .ok (.iadd, 1) := by decide +kernel
theorem d_L_law_377 : decode b_L_law 377 = .ok (.iaload, 1) := by decide +kernel
theorem d_L_law_378 : decode b_L_law 378 = .ok (.aload_n 0, 1) := by decide +kernel
theorem d_L_law_379 : decode b_L_law 379 = .ok (.iload_n 3, 1) := by decide +kernel
theorem d_L_law_380 : decode b_L_law 380 = .ok (.iconst 3, 1) := by decide +kernel
theorem d_L_law_381 : decode b_L_law 381 = .ok (.iadd, 1) := by decide +kernel
theorem d_L_law_382 : decode b_L_law 382 = .ok (.iaload, 1) := by decide +kernel
theorem d_L_law_383 : decode b_L_law 383 = .ok (.invokevirtual 45, 3) := by decide +kernel
theorem d_L_law_386 : decode b_L_law 386 = .ok (.aload_n 2, 1) := by decide +kernel
theorem d_L_law_387 : decode b_L_law 387 = .ok (.aload_n 0, 1) := by decide +kernel
theorem d_L_law_388 : decode b_L_law 388 = .ok (.iload_n 3, 1) := by decide +kernel
theorem d_L_law_389 : decode b_L_law 389 = .ok (.iconst 1, 1) := by decide +kernel
theorem d_L_law_390 : decode b_L_law 390 = .ok (.iadd, 1) := by decide +kernel
theorem d_L_law_391 : decode b_L_law 391 = .ok (.iaload, 1) := by decide +kernel
theorem d_L_law_392 : decode b_L_law 392 = .ok (.aload_n 0, 1) := by decide +kernel
theorem d_L_law_393 : decode b_L_law 393 = .ok (.iload_n 3, 1) := by decide +kernel
theorem d_L_law_394 : decode b_L_law 394 = .ok (.iconst 2, 1) := by decide +kernel
theorem d_L_law_395 : decode b_L_law 395 = .ok (.iadd, 1) := by decide +kernel
theorem d_L_law_396 : decode b_L_law 396 = .ok (.iaload, 1) := by decide +kernel
theorem d_L_law_397 : decode b_L_law 397 = .ok (.aload_n 0, 1) := by decide +kernel
theorem d_L_law_398 : decode b_L_law 398 = .ok (.iload_n 3, 1) := by decide +kernel
theorem d_L_law_399 : decode b_L_law 399 = .ok (.iconst 3, 1) := by decide +kernel
theorem d_L_law_400 : decode b_L_law 400 = .ok (.iadd, 1) := by decide +kernel
theorem d_L_law_401 : decode b_L_law 401 = .ok (.iaload, 1) := by decide +kernel
theorem d_L_law_402 : decode b_L_law 402 = .ok (.invokevirtual 48, 3) := by decide +kernel
theorem d_L_law_405 : decode b_L_law 405 = .ok (.if_icmp .eq 245, 3) := by decide +kernel
theorem d_L_law_408 : decode b_L_law 408 = .ok (.iconst 0, 1) := by decide +kernel
theorem d_L_law_409 : decode b_L_law 409 = .ok (.ireturn, 1) := by decide +kernel
theorem d_L_law_410 : decode b_L_law 410 = .ok (.aload_n 1, 1) := by decide +kernel
theorem d_L_law_411 : decode b_L_law 411 = .ok (.aload_n 0, 1) := by decide +kernel
theorem d_L_law_412 : decode b_L_law 412 = .ok (.iload_n 3, 1) := by decide +kernel
theorem d_L_law_413 : decode b_L_law 413 = .ok (.iconst 1, 1) := by decide +kernel
theorem d_L_law_414 : decode b_L_law 414 = .ok (.iadd, 1) := by decide +kernel
theorem d_L_law_415 : decode b_L_law 415 = .ok (.iaload, 1) := by decide +kernel
theorem d_L_law_416 : decode b_L_law 416 = .ok (.invokevirtual 49, 3) := by decide +kernel
theorem d_L_law_419 : decode b_L_law 419 = .ok (.aload_n 2, 1) := by decide +kernel
theorem d_L_law_420 : decode b_L_law 420 = .ok (.aload_n 0, 1) := by decide +kernel
theorem d_L_law_421 : decode b_L_law 421 = .ok (.iload_n 3, 1) := by decide +kernel
theorem d_L_law_422 : decode b_L_law 422 = .ok (.iconst 1, 1) := by decide +kernel
theorem d_L_law_423 : decode b_L_law 423 = .ok (.iadd, 1) := by decide +kernel
theorem d_L_law_424 : decode b_L_law 424 = .ok (.iaload, 1) := by decide +kernel
theorem d_L_law_425 : decode b_L_law 425 = .ok (.invokevirtual 52, 3) := by decide +kernel
theorem d_L_law_428 : decode b_L_law 428 = .ok (.if_icmp .eq 222, 3) := by decide +kernel
end
section
theorem d_L_law_431 : decode b_L_law 431 = .ok (.iconst 0, 1) := by decide +kernel
theorem d_L_law_432 : decode b_L_law 432 = .ok (.ireturn, 1) := by decide +kernel
theorem d_L_law_433 : decode b_L_law 433 = .ok (.aload_n 1, 1) := by decide +kernel
theorem d_L_law_434 : decode b_L_law 434 = .ok (.invokevirtual 53, 3) := by decide +kernel
theorem d_L_law_437 : decode b_L_law 437 = .ok (.aload_n 2, 1) := by decide +kernel
theorem d_L_law_438 : decode b_L_law 438 = .ok (.invokevirtual 57, 3) := by decide +kernel
theorem d_L_law_441 : decode b_L_law 441 = .ok (.if_icmp .eq 209, 3) := by decide +kernel
theorem d_L_law_444 : decode b_L_law 444 = .ok (.iconst 0, 1) := by decide +kernel
theorem d_L_law_445 : decode b_L_law 445 = .ok (.ireturn, 1) := by decide +kernel
theorem d_L_law_446 : decode b_L_law 446 = .ok (.aload_n 1, 1) := by decide +kernel
theorem d_L_law_447 : decode b_L_law 447 = .ok (.invokevirtual 58, 3) := by decide +kernel
theorem d_L_law_450 : decode b_L_law 450 = .ok (.aload_n 2, 1) := by decide +kernel
theorem d_L_law_451 : decode b_L_law 451 = .ok (.invokevirtual 61, 3) := by decide +kernel
theorem d_L_law_454 : decode b_L_law 454 = .ok (.if_icmp .eq 196, 3) := by decide +kernel
theorem d_L_law_457 : decode b_L_law 457 = .ok (.iconst 0, 1) := by decide +kernel
theorem d_L_law_458 : decode b_L_law 458 = .ok (.ireturn, 1) := by decide +kernel
theorem d_L_law_459 : decode b_L_law 459 = .ok (.aload_n 1, 1) := by decide +kernel
theorem d_L_law_460 : decode b_L_law 460 = .ok (.aload_n 0, 1) := by decide +kernel
theorem d_L_law_461 : decode b_L_law 461 = .ok (.iload_n 3, 1) := by decide +kernel
theorem d_L_law_462 : decode b_L_law 462 = .ok (.iconst 1, 1) := by decide +kernel
theorem d_L_law_463 : decode b_L_law 463 = .ok (.iadd, 1) := by decide +kernel
theorem d_L_law_464 : decode b_L_law 464 = .ok (.iaload, 1) := by decide +kernel
theorem d_L_law_465 : decode b_L_law 465 = .ok (.invokevirtual 62, 3) := by decide +kernel
theorem d_L_law_468 : decode b_L_law 468 = .ok (.aload_n 2, 1) := by decide +kernel
theorem d_L_law_469 : decode b_L_law 469 = .ok (.aload_n 0, 1) := by decide +kernel
theorem d_L_law_470 : decode b_L_law 470 = .ok (.iload_n 3, 1) := by decide +kernel
theorem d_L_law_471 : decode b_L_law 471 = .ok (.iconst 1, 1) := by decide +kernel
theorem d_L_law_472 : decode b_L_law 472 = .ok (.iadd, 1) := by decide +kernel
theorem d_L_law_473 : decode b_L_law 473 = .ok (.iaload, 1) := by decide +kernel
theorem d_L_law_474 : decode b_L_law 474 = .ok (.invokevirtual 65, 3) := by decide +kernel
theorem d_L_law_477 : decode b_L_law 477 = .ok (.if_icmp .eq 173, 3) := by decide +kernel
theorem d_L_law_480 : decode b_L_law 480 = .ok (.iconst 0, 1) := by decide +kernel
theorem d_L_law_481 : decode b_L_law 481 = .ok (.ireturn, 1) := by decide +kernel
theorem d_L_law_482 : decode b_L_law 482 = .ok (.aload_n 1, 1) := by decide +kernel
theorem d_L_law_483 : decode b_L_law 483 = .ok (.aload_n 0, 1) := by decide +kernel
theorem d_L_law_484 : decode b_L_law 484 = .ok (.iload_n 3, 1) := by decide +kernel
theorem d_L_law_485 : decode b_L_law 485 = .ok (.iconst 1, 1) := by decide +kernel
theorem d_L_law_486 : decode b_L_law 486 = .ok (.iadd, 1) := by decide +kernel
theorem d_L_law_487 : decode b_L_law 487 = .ok (.iaload, 1) := by decide +kernel
theorem d_L_law_488 : decode b_L_law 488 = .ok (.aload_n 0, 1) := by decide +kernel
theorem d_L_law_489 : decode b_L_law 489 = .ok (.iload_n 3, 1) := by decide +kernel
theorem d_L_law_490 : decode b_L_law 490 = .ok (.iconst 2, 1) := by decide +kernel
theorem d_L_law_491 : decode b_L_law 491 = .ok (.iadd, 1) := by decide +kernel
theorem d_L_law_492 : decode b_L_law 492 = .ok (.iaload, 1) := by decide +kernel
theorem d_L_law_493 : decode b_L_law 493 = .ok (.invokevirtual 66, 3) := by decide +kernel
theorem d_L_law_496 : decode b_L_law 496 = .ok (.aload_n 2, 1) := by decide +kernel
theorem d_L_law_497 : decode b_L_law 497 = .ok (.aload_n 0, 1) := by decide +kernel
theorem d_L_law_498 : decode b_L_law 498 = .ok (.iload_n 3, 1) := by decide +kernel
theorem d_L_law_499 : decode b_L_law 499 = .ok (.iconst 1, 1) := by decide +kernel
theorem d_L_law_500 : decode b_L_law 500 = .ok (.iadd, 1) := by decide +kernel
theorem d_L_law_501 : decode b_L_law 501 = .ok (.iaload, 1) := by decide +kernel
theorem d_L_law_502 : decode b_L_law 502 = .ok (.aload_n 0, 1) := by decide +kernel
theorem d_L_law_503 : decode b_L_law 503 = .ok (.iload_n 3, 1) := by decide +kernel
theorem d_L_law_504 : decode b_L_law 504 = .ok (.iconst 2, 1) := by decide +kernel
theorem d_L_law_505 : decode b_L_law 505 = .ok (.iadd, 1) := by decide +kernel
theorem d_L_law_506 : decode b_L_law 506 = .ok (.iaload, 1) := by decide +kernel
theorem d_L_law_507 : decode b_L_law 507 = .ok (.invokevirtual 69, 3) := by decide +kernel
theorem d_L_law_510 : decode b_L_law 510 = .ok (.if_icmp .eq 140, 3) := by decide +kernel
theorem d_L_law_513 : decode b_L_law 513 = .ok (.iconst 0, 1) := by decide +kernel
theorem d_L_law_514 : decode b_L_law 514 = .ok (.ireturn, 1) := by decide +kernel
theorem d_L_law_515 : decode b_L_law 515 = .ok (.aload_n 1, 1) := by decide +kernel
theorem d_L_law_516 : decode b_L_law 516 = .ok (.aload_n 0, 1) := by decide +kernel
theorem d_L_law_517 : decode b_L_law 517 = .ok (.iload_n 3, 1) := by decide +kernel
theorem d_L_law_518 : decode b_L_law 518 = .ok (.iconst 1, 1) := by decide +kernel
theorem d_L_law_519 : decode b_L_law 519 = .ok (.iadd, 1) := by decide +kernel
theorem d_L_law_520 : decode b_L_law 520 = .ok (.iaload, 1) := by decide +kernel
theorem d_L_law_521 : decode b_L_law 521 = .ok (.invokevirtual 70, 3) := by decide +kernel
theorem d_L_law_524 : decode b_L_law 524 = .ok (.aload_n 2, 1) := by decide +kernel
theorem d_L_law_525 : decode b_L_law 525 = .ok (.aload_n 0, 1) := by decide +kernel
theorem d_L_law_526 : decode b_L_law 526 = .ok (.iload_n 3, 1) := by decide +kernel
theorem d_L_law_527 : decode b_L_law 527 = .ok (.iconst 1, 1) := by decide +kernel
theorem d_L_law_528 : decode b_L_law 528 = .ok (.iadd, 1) := by decide +kernel
theorem d_L_law_529 : decode b_L_law 529 = .ok (.iaload, 1) := by decide +kernel
theorem d_L_law_530 : decode b_L_law 530 = .ok (.invokevirtual 73, 3) := by decide +kernel
theorem d_L_law_533 : decode b_L_law 533 = .ok (.if_icmp .eq 117, 3) := by decide +kernel
theorem d_L_law_536 : decode b_L_law 536 = .ok (.iconst 0, 1) := by decide +kernel
theorem d_L_law_537 : decode b_L_law 537 = .ok (.ireturn, 1) := by decide +kernel
theorem d_L_law_538 : decode b_L_law 538 = .ok (.aload_n 1, 1) := by decide +kernel
theorem d_L_law_539 : decode b_L_law 539 = .ok (.aload_n 0, 1) := by decide +kernel
theorem d_L_law_540 : decode b_L_law 540 = .ok (.iload_n 3, 1) := by decide +kernel
theorem d_L_law_541 : decode b_L_law 541 = .ok (.iconst 1, 1) := by decide +kernel
theorem d_L_law_542 : decode b_L_law 542 = .ok (.iadd, 1) := by decide +kernel
theorem d_L_law_543 : decode b_L_law 543 = .ok (.iaload, 1) := by decide +kernel
theorem d_L_law_544 : decode b_L_law 544 = .ok (.invokevirtual 74, 3) := by decide +kernel
theorem d_L_law_547 : decode b_L_law 547 = .ok (.aload_n 2, 1) := by decide +kernel
theorem d_L_law_548 : decode b_L_law 548 = .ok (.aload_n 0, 1) := by decide +kernel
theorem d_L_law_549 : decode b_L_law 549 = .ok (.iload_n 3, 1) := by decide +kernel
theorem d_L_law_550 : decode b_L_law 550 = .ok (.iconst 1, 1) := by decide +kernel
theorem d_L_law_551 : decode b_L_law 551 = .ok (.iadd, 1) := by decide +kernel
theorem d_L_law_552 : decode b_L_law 552 = .ok (.iaload, 1) := by decide +kernel
theorem d_L_law_553 : decode b_L_law 553 = .ok (.invokevirtual 77, 3) := by decide +kernel
theorem d_L_law_556 : decode b_L_law 556 = .ok (.if_icmp .eq 94, 3) := by decide +kernel
theorem d_L_law_559 : decode b_L_law 559 = .ok (.iconst 0, 1) := by decide +kernel
theorem d_L_law_560 : decode b_L_law 560 = .ok (.ireturn, 1) := by decide +kernel
theorem d_L_law_561 : decode b_L_law 561 = .ok (.aload_n 1, 1) := by decide +kernel
theorem d_L_law_562 : decode b_L_law 562 = .ok (.aload_n 0, 1) := by decide +kernel
theorem d_L_law_563 : decode b_L_law 563 = .ok (.iload_n 3, 1) := by decide +kernel
theorem d_L_law_564 : decode b_L_law 564 = .ok (.iconst 1, 1) := by decide +kernel
theorem d_L_law_565 : decode b_L_law 565 = .ok (.iadd, 1) := by decide +kernel
theorem d_L_law_566 : decode b_L_law 566 = .ok (.iaload, 1) := by decide +kernel
theorem d_L_law_567 : decode b_L_law 567 = .ok (.invokevirtual 78, 3) := by decide +kernel
theorem d_L_law_570 : decode b_L_law 570 = .ok (.aload_n 2, 1) := by decide +kernel
theorem d_L_law_571 : decode b_L_law 571 = .ok (.aload_n 0, 1) := by decide +kernel
theorem d_L_law_572 : decode b_L_law 572 = .ok (.iload_n 3, 1) := by decide +kernel
theorem d_L_law_573 : decode b_L_law 573 = .ok (.iconst 1, 1) := by decide +kernel
theorem d_L_law_574 : decode b_L_law 574 = .ok (.iadd, 1) := by decide +kernel
theorem d_L_law_575 : decode b_L_law 575 = .ok (.iaload, 1) := by decide +kernel
theorem d_L_law_576 : decode b_L_law 576 = .ok (.invokevirtual 81, 3) := by decide +kernel
theorem d_L_law_579 : decode b_L_law 579 = .ok (.if_icmp .eq 71, 3) := by decide +kernel
theorem d_L_law_582 : decode b_L_law 582 = .ok (.iconst 0, 1) := by decide +kernel
theorem d_L_law_583 : decode b_L_law 583 = .ok (.ireturn, 1) := by decide +kernel
theorem d_L_law_584 : decode b_L_law 584 = .ok (.aload_n 1, 1) := by decide +kernel
theorem d_L_law_585 : decode b_L_law 585 = .ok (.aload_n 0, 1) := by decide +kernel
theorem d_L_law_586 : decode b_L_law 586 = .ok (.iload_n 3, 1) := by decide +kernel
theorem d_L_law_587 : decode b_L_law 587 = .ok (.iconst 1, 1) := by decide +kernel
theorem d_L_law_588 : decode b_L_law 588 = .ok (.iadd, 1) := by decide +kernel
theorem d_L_law_589 : decode b_L_law 589 = .ok (.iaload, 1) := by decide +kernel
theorem d_L_law_590 : decode b_L_law 590 = .ok (.aload_n 0, 1) := by decide +kernel
theorem d_L_law_591 : decode b_L_law 591 = .ok (.iload_n 3, 1) := by decide +kernel
theorem d_L_law_592 : decode b_L_law 592 = .ok (.iconst 2, 1) := by decide +kernel
theorem d_L_law_593 : decode b_L_law 593 = .ok (.iadd, 1) := by decide +kernel
theorem d_L_law_594 : decode b_L_law 594 = .ok (.iaload, 1) := by decide +kernel
theorem d_L_law_595 : decode b_L_law 595 = .ok (.invokevirtual 82, 3) := by decide +kernel
theorem d_L_law_598 : decode b_L_law 598 = .ok (.aload_n 2, 1) := by decide +kernel
theorem d_L_law_599 : decode b_L_law 599 = .ok (.aload_n 0, 1) := by decide +kernel
theorem d_L_law_600 : decode b_L_law 600 = .ok (.iload_n 3, 1) := by decide +kernel
theorem d_L_law_601 : decode b_L_law 601 = .ok (.iconst 1, 1) := by decide +kernel
theorem d_L_law_602 : decode b_L_law 602 = .ok (.iadd, 1) := by decide +kernel
theorem d_L_law_603 : decode b_L_law 603 = .ok (.iaload, 1) := by decide +kernel
theorem d_L_law_604 : decode b_L_law 604 = .ok (.aload_n 0, 1) := by decide +kernel
theorem d_L_law_605 : decode b_L_law 605 = .ok (.iload_n 3, 1) := by decide +kernel
theorem d_L_law_606 : decode b_L_law 606 = .ok (.iconst 2, 1) := by decide +kernel
theorem d_L_law_607 : decode b_L_law 607 = .ok (.iadd, 1) := by decide +kernel
theorem d_L_law_608 : decode b_L_law 608 = .ok (.iaload, 1) := by decide +kernel
theorem d_L_law_609 : decode b_L_law 609 = .ok (.invokevirtual 85, 3) := by decide +kernel
theorem d_L_law_612 : decode b_L_law 612 = .ok (.if_icmp .eq 38, 3) := by decide +kernel
theorem d_L_law_615 : decode b_L_law 615 = .ok (.iconst 0, 1) := by decide +kernel
theorem d_L_law_616 : decode b_L_law 616 = .ok (.ireturn, 1) := by decide +kernel
theorem d_L_law_617 : decode b_L_law 617 = .ok (.aload_n 1, 1) := by decide +kernel
theorem d_L_law_618 : decode b_L_law 618 = .ok (.aload_n 0, 1) := by decide +kernel
theorem d_L_law_619 : decode b_L_law 619 = .ok (.iload_n 3, 1) := by decide +kernel
theorem d_L_law_620 : decode b_L_law 620 = .ok (.iconst 1, 1) := by decide +kernel
theorem d_L_law_621 : decode b_L_law 621 = .ok (.iadd, 1) := by decide +kernel
theorem d_L_law_622 : decode b_L_law 622 = .ok (.iaload, 1) := by decide +kernel
theorem d_L_law_623 : decode b_L_law 623 = .ok (.aload_n 0, 1) := by decide +kernel
theorem d_L_law_624 : decode b_L_law 624 = .ok (.iload_n 3, 1) := by decide +kernel
theorem d_L_law_625 : decode b_L_law 625 = .ok (.iconst 2, 1) := by decide +kernel
theorem d_L_law_626 : decode b_L_law 626 = .ok (.iadd, 1) := by decide +kernel
theorem d_L_law_627 : decode b_L_law 627 = .ok (.iaload, 1) := by decide +kernel
theorem d_L_law_628 : decode b_L_law 628 = .ok (.invokevirtual 86, 3) := by decide +kernel
theorem d_L_law_631 : decode b_L_law 631 = .ok (.aload_n 2, 1) := by decide +kernel
theorem d_L_law_632 : decode b_L_law 632 = .ok (.aload_n 0, 1) := by decide +kernel
theorem d_L_law_633 : decode b_L_law 633 = .ok (.iload_n 3, 1) := by decide +kernel
theorem d_L_law_634 : decode b_L_law 634 = .ok (.iconst 1, 1) := by decide +kernel
theorem d_L_law_635 : decode b_L_law 635 = .ok (.iadd, 1) := by decide +kernel
theorem d_L_law_636 : decode b_L_law 636 = .ok (.iaload, 1) := by decide +kernel
theorem d_L_law_637 : decode b_L_law 637 = .ok (.aload_n 0, 1) := by decide +kernel
theorem d_L_law_638 : decode b_L_law 638 = .ok (.iload_n 3, 1) := by decide +kernel
theorem d_L_law_639 : decode b_L_law 639 = .ok (.iconst 2, 1) := by decide +kernel
theorem d_L_law_640 : decode b_L_law 640 = .ok (.iadd, 1) := by decide +kernel
theorem d_L_law_641 : decode b_L_law 641 = .ok (.iaload, 1) := by decide +kernel
theorem d_L_law_642 : decode b_L_law 642 = .ok (.invokevirtual 89, 3) := by decide +kernel
theorem d_L_law_645 : decode b_L_law 645 = .ok (.if_icmp .eq 5, 3) := by decide +kernel
theorem d_L_law_648 : decode b_L_law 648 = .ok (.iconst 0, 1) := by decide +kernel
theorem d_L_law_649 : decode b_L_law 649 = .ok (.ireturn, 1) := by decide +kernel
theorem d_L_law_650 : decode b_L_law 650 = .ok (.iinc 3 4, 3) := by decide +kernel
theorem d_L_law_653 : decode b_L_law 653 = .ok (.goto (-635), 3) := by decide +kernel
theorem d_L_law_656 : decode b_L_law 656 = .ok (.iconst 1, 1) := by decide +kernel
theorem d_L_law_657 : decode b_L_law 657 = .ok (.ireturn, 1) := by decide +kernel
end
section
def xcap (r : Nat) : Nat := [60, 60, 40, 40, 40, 60, 60, 60, 60, 60, 60, 8, 40, 60, 60, 60, 40].getD r 0
def xW (cI cZ cJ : ClassId) (ao aa : Nat → Nat) (S : St) : va_W := [(ao 0, .inr (0, [.ref (aa 0), .int (gI S 0)])), (ao 1, .inr (0, [.ref (aa 1), .int (gI S 1)])), (ao 2, .inr (0, [.ref (aa 2), .int (gI S 2)])), (ao 3, .inr (0, [.ref (aa 3), .int (gI S 3)])), (ao 4, .inr (0, [.ref (aa 4), .int (gI S 4)])), (ao 5, .inr (0, [.ref (aa 5), .int (gI S 5)])), (ao 6, .inr (0, [.ref (aa 6), .int (gI S 6)])), (ao 7, .inr (0, [.ref (aa 7), .int (gI S 7)])), (ao 8, .inr (0, [.ref (aa 8), .int (gI S 8)])), (ao 9, .inr (0, [.ref (aa 9), .int (gI S 9)])), (ao 10, .inr (0, [.ref (aa 10), .int (gI S 10)])), (ao 11, .inr (0, [.ref (aa 11), .int (gI S 11)])), (ao 12, .inr (0, [.ref (aa 12), .int (gI S 12)])), (ao 13, .inr (0, [.ref (aa 13), .int (gI S 13)])), (ao 14, .inr (0, [.ref (aa 14), .int (gI S 14)])), (ao 15, .inr (0, [.ref (aa 15), .int (gI S 15)])), (ao 16, .inr (0, [.ref (aa 16), .int (gI S 16)])), (ao 17, .inr (1, [.ref (ao 9), .int (gI S 17), .int (gI S 18), .long (gL S 0)])), (ao 18, .inr (1, [.ref (ao 10), .int (gI S 19), .int (gI S 20), .long (gL S 1)])), (ao 19, .inr (2, [.ref (ao 21), .long (gL S 2), .int (gI S 21)])), (ao 20, .inr (2, [.ref (ao 21), .long (gL S 3), .int (gI S 22)])), (ao 21, .inr (3, [.ref (aa 17), .ref (aa 18), .ref (aa 19), .int (gI S 23), .long (gL S 4), .long (gL S 5), .long (gL S 6), .long (gL S 7)])), (ao 22, .inr (4, [.ref (ao 0), .ref (ao 1), .int (gI S 24)])), (ao 23, .inr (5, [.ref (aa 20), .ref (aa 21), .ref (aa 22), .ref (aa 23), .ref (aa 24), .ref (aa 25), .int (gI S 25)])), (ao 24, .inr (6, [.ref (ao 2), .ref (ao 3), .ref (ao 4)])), (ao 25, .inr (7, [.ref (ao 21), .ref (ao 23), .ref (ao 24), .ref (ao 6), .ref (ao 20), .ref (ao 17), .ref (ao 18), .ref (ao 11), .ref (ao 12), .int (gI S 26), .int (gI S 27), .int (gI S 28), .int (gI S 29)])), (ao 26, .inr (8, [.ref (ao 13), .ref (ao 14), .ref (ao 15), .ref (ao 16), .int (gI S 30), .int (gI S 31), .int (gI S 32), .int (gI S 33), .int (gI S 34)])), (ao 27, .inr (9, [.ref (ao 21), .ref (ao 22), .ref (ao 23), .ref (ao 24), .ref (ao 5), .ref (ao 6), .ref (ao 7), .ref (ao 8), .ref (ao 19), .ref (ao 25), .ref (ao 26), .int (gI S 35), .int (gI S 36)])), (aa 0, .inl (cI, 60, .inl (gA S 0))), (aa 1, .inl (cI, 60, .inl (gA S 1))), (aa 2, .inl (cI, 40, .inl (gA S 2))), (aa 3, .inl (cI, 40, .inl (gA S 3))), (aa 4, .inl (cI, 40, .inl (gA S 4))), (aa 5, .inl (cI, 60, .inl (gA S 5))), (aa 6, .inl (cI, 60, .inl (gA S 6))), (aa 7, .inl (cI, 60, .inl (gA S 7))), (aa 8, .inl (cI, 60, .inl (gA S 8))), (aa 9, .inl (cI, 60, .inl (gA S 9))), (aa 10, .inl (cI, 60, .inl (gA S 10))), (aa 11, .inl (cI, 8, .inl (gA S 11))), (aa 12, .inl (cI, 40, .inl (gA S 12))), (aa 13, .inl (cI, 60, .inl (gA S 13))), (aa 14, .inl (cI, 60, .inl (gA S 14))), (aa 15, .inl (cI, 60, .inl (gA S 15))), (aa 16, .inl (cI, 40, .inl (gA S 16))), (aa 17, .inl (cI, 40, .inl (gA S 17))), (aa 18, .inl (cI, 40, .inl (gA S 18))), (aa 19, .inl (cI, 160, .inl (gA S 19))), (aa 20, .inl (cI, 60, .inl (gA S 20))), (aa 21, .inl (cI, 60, .inl (gA S 21))), (aa 22, .inl (cZ, 60, .inl (gA S 22))), (aa 23, .inl (cI, 60, .inl (gA S 23))), (aa 24, .inl (cI, 480, .inl (gA S 24))), (aa 25, .inl (cI, 480, .inl (gA S 25)))]
def xA (ao aa : Nat → Nat) : Nat → Prop := fun q => (∃ k, k < 28 ∧ q = ao k) ∨ ∃ k, k < 26 ∧ q = aa k
theorem xo_row {cI cZ cJ : ClassId} {ao aa : Nat → Nat} {S : St} : ∀ {r : Nat}, r < 17 → (xW cI cZ cJ ao aa S)[r]? = some (ao r, .inr (0, [.ref (aa r), .int (gI S r)]))
  | 0, _ => rfl
  | 1, _ => rfl
  | 2, _ => rfl
  | 3, _ => rfl
  | 4, _ => rfl
  | 5, _ => rfl
  | 6, _ => rfl
  | 7, _ => rfl
  | 8, _ => rfl
  | 9, _ => rfl
  | 10, _ => rfl
  | 11, _ => rfl
  | 12, _ => rfl
  | 13, _ => rfl
  | 14, _ => rfl
  | 15, _ => rfl
  | 16, _ => rfl
  | n + 17, h => absurd h (by omega)
theorem xa_row {cI cZ cJ : ClassId} {ao aa : Nat → Nat} {S : St} : ∀ {r : Nat}, r < 17 → (xW cI cZ cJ ao aa S)[28 + r]? = some (aa r, .inl (cI, xcap r, .inl (gA S r)))
  | 0, _ => rfl
  | 1, _ => rfl
  | 2, _ => rfl
  | 3, _ => rfl
  | 4, _ => rfl
  | 5, _ => rfl
  | 6, _ => rfl
  | 7, _ => rfl
  | 8, _ => rfl
  | 9, _ => rfl
  | 10, _ => rfl
  | 11, _ => rfl
  | 12, _ => rfl
  | 13, _ => rfl
  | 14, _ => rfl
  | 15, _ => rfl
  | 16, _ => rfl
  | n + 17, h => absurd h (by omega)
set_option maxRecDepth 100000 in
theorem xs_row {cI cZ cJ : ClassId} {ao aa : Nat → Nat} {S : St} {v : Int32} : ∀ {r : Nat}, r < 17 → (xW cI cZ cJ ao aa S).set r (ao r, .inr (0, ([.ref (aa r), .int (gI S r)]).set 1 (.int v))) = xW cI cZ cJ ao aa (sI S r v)
  | 0, _ => rfl
  | 1, _ => rfl
  | 2, _ => rfl
  | 3, _ => rfl
  | 4, _ => rfl
  | 5, _ => rfl
  | 6, _ => rfl
  | 7, _ => rfl
  | 8, _ => rfl
  | 9, _ => rfl
  | 10, _ => rfl
  | 11, _ => rfl
  | 12, _ => rfl
  | 13, _ => rfl
  | 14, _ => rfl
  | 15, _ => rfl
  | 16, _ => rfl
  | n + 17, h => absurd h (by omega)
set_option maxRecDepth 100000 in
theorem xt_row {cI cZ cJ : ClassId} {ao aa : Nat → Nat} {S : St} {i : Nat} {v : Int32} : ∀ {r : Nat}, r < 17 → (xW cI cZ cJ ao aa S).set (28 + r) (aa r, .inl (cI, xcap r, .inl (upd (gA S r) i v))) = xW cI cZ cJ ao aa (sA S r i v)
  | 0, _ => rfl
  | 1, _ => rfl
  | 2, _ => rfl
  | 3, _ => rfl
  | 4, _ => rfl
  | 5, _ => rfl
  | 6, _ => rfl
  | 7, _ => rfl
  | 8, _ => rfl
  | 9, _ => rfl
  | 10, _ => rfl
  | 11, _ => rfl
  | 12, _ => rfl
  | 13, _ => rfl
  | 14, _ => rfl
  | 15, _ => rfl
  | 16, _ => rfl
  | n + 17, h => absurd h (by omega)
theorem xo_17 {cI cZ cJ : ClassId} {ao aa : Nat → Nat} {S : St} : (xW cI cZ cJ ao aa S)[17]? = some (ao 17, .inr (1, [.ref (ao 9), .int (gI S 17), .int (gI S 18), .long (gL S 0)])) := rfl
set_option maxRecDepth 100000 in
theorem xs_17_kind {cI cZ cJ : ClassId} {ao aa : Nat → Nat} {S : St} {v : Int32} : (xW cI cZ cJ ao aa S).set 17 (ao 17, .inr (1, [.ref (ao 9), .int (gI S 17), .int (gI S 18), .long (gL S 0)].set 1 (.int v))) = xW cI cZ cJ ao aa (sI S 17 v) := rfl
set_option maxRecDepth 100000 in
theorem xs_17_place {cI cZ cJ : ClassId} {ao aa : Nat → Nat} {S : St} {v : Int32} : (xW cI cZ cJ ao aa S).set 17 (ao 17, .inr (1, [.ref (ao 9), .int (gI S 17), .int (gI S 18), .long (gL S 0)].set 2 (.int v))) = xW cI cZ cJ ao aa (sI S 18 v) := rfl
set_option maxRecDepth 100000 in
theorem xs_17_things {cI cZ cJ : ClassId} {ao aa : Nat → Nat} {S : St} {v : Int64} : (xW cI cZ cJ ao aa S).set 17 (ao 17, .inr (1, [.ref (ao 9), .int (gI S 17), .int (gI S 18), .long (gL S 0)].set 3 (.long v))) = xW cI cZ cJ ao aa (sL S 0 v) := rfl
theorem xo_18 {cI cZ cJ : ClassId} {ao aa : Nat → Nat} {S : St} : (xW cI cZ cJ ao aa S)[18]? = some (ao 18, .inr (1, [.ref (ao 10), .int (gI S 19), .int (gI S 20), .long (gL S 1)])) := rfl
set_option maxRecDepth 100000 in
theorem xs_18_kind {cI cZ cJ : ClassId} {ao aa : Nat → Nat} {S : St} {v : Int32} : (xW cI cZ cJ ao aa S).set 18 (ao 18, .inr (1, [.ref (ao 10), .int (gI S 19), .int (gI S 20), .long (gL S 1)].set 1 (.int v))) = xW cI cZ cJ ao aa (sI S 19 v) := rfl
set_option maxRecDepth 100000 in
theorem xs_18_place {cI cZ cJ : ClassId} {ao aa : Nat → Nat} {S : St} {v : Int32} : (xW cI cZ cJ ao aa S).set 18 (ao 18, .inr (1, [.ref (ao 10), .int (gI S 19), .int (gI S 20), .long (gL S 1)].set 2 (.int v))) = xW cI cZ cJ ao aa (sI S 20 v) := rfl
set_option maxRecDepth 100000 in
theorem xs_18_things {cI cZ cJ : ClassId} {ao aa : Nat → Nat} {S : St} {v : Int64} : (xW cI cZ cJ ao aa S).set 18 (ao 18, .inr (1, [.ref (ao 10), .int (gI S 19), .int (gI S 20), .long (gL S 1)].set 3 (.long v))) = xW cI cZ cJ ao aa (sL S 1 v) := rfl
theorem xo_19 {cI cZ cJ : ClassId} {ao aa : Nat → Nat} {S : St} : (xW cI cZ cJ ao aa S)[19]? = some (ao 19, .inr (2, [.ref (ao 21), .long (gL S 2), .int (gI S 21)])) := rfl
set_option maxRecDepth 100000 in
theorem xs_19_its {cI cZ cJ : ClassId} {ao aa : Nat → Nat} {S : St} {v : Int64} : (xW cI cZ cJ ao aa S).set 19 (ao 19, .inr (2, [.ref (ao 21), .long (gL S 2), .int (gI S 21)].set 1 (.long v))) = xW cI cZ cJ ao aa (sL S 2 v) := rfl
set_option maxRecDepth 100000 in
theorem xs_19_end {cI cZ cJ : ClassId} {ao aa : Nat → Nat} {S : St} {v : Int32} : (xW cI cZ cJ ao aa S).set 19 (ao 19, .inr (2, [.ref (ao 21), .long (gL S 2), .int (gI S 21)].set 2 (.int v))) = xW cI cZ cJ ao aa (sI S 21 v) := rfl
theorem xo_20 {cI cZ cJ : ClassId} {ao aa : Nat → Nat} {S : St} : (xW cI cZ cJ ao aa S)[20]? = some (ao 20, .inr (2, [.ref (ao 21), .long (gL S 3), .int (gI S 22)])) := rfl
set_option maxRecDepth 100000 in
theorem xs_20_its {cI cZ cJ : ClassId} {ao aa : Nat → Nat} {S : St} {v : Int64} : (xW cI cZ cJ ao aa S).set 20 (ao 20, .inr (2, [.ref (ao 21), .long (gL S 3), .int (gI S 22)].set 1 (.long v))) = xW cI cZ cJ ao aa (sL S 3 v) := rfl
set_option maxRecDepth 100000 in
theorem xs_20_end {cI cZ cJ : ClassId} {ao aa : Nat → Nat} {S : St} {v : Int32} : (xW cI cZ cJ ao aa S).set 20 (ao 20, .inr (2, [.ref (ao 21), .long (gL S 3), .int (gI S 22)].set 2 (.int v))) = xW cI cZ cJ ao aa (sI S 22 v) := rfl
theorem xo_21 {cI cZ cJ : ClassId} {ao aa : Nat → Nat} {S : St} : (xW cI cZ cJ ao aa S)[21]? = some (ao 21, .inr (3, [.ref (aa 17), .ref (aa 18), .ref (aa 19), .int (gI S 23), .long (gL S 4), .long (gL S 5), .long (gL S 6), .long (gL S 7)])) := rfl
set_option maxRecDepth 100000 in
theorem xs_21_count {cI cZ cJ : ClassId} {ao aa : Nat → Nat} {S : St} {v : Int32} : (xW cI cZ cJ ao aa S).set 21 (ao 21, .inr (3, [.ref (aa 17), .ref (aa 18), .ref (aa 19), .int (gI S 23), .long (gL S 4), .long (gL S 5), .long (gL S 6), .long (gL S 7)].set 3 (.int v))) = xW cI cZ cJ ao aa (sI S 23 v) := rfl
set_option maxRecDepth 100000 in
theorem xs_21_inScope {cI cZ cJ : ClassId} {ao aa : Nat → Nat} {S : St} {v : Int64} : (xW cI cZ cJ ao aa S).set 21 (ao 21, .inr (3, [.ref (aa 17), .ref (aa 18), .ref (aa 19), .int (gI S 23), .long (gL S 4), .long (gL S 5), .long (gL S 6), .long (gL S 7)].set 4 (.long v))) = xW cI cZ cJ ao aa (sL S 4 v) := rfl
set_option maxRecDepth 100000 in
theorem xs_21_held {cI cZ cJ : ClassId} {ao aa : Nat → Nat} {S : St} {v : Int64} : (xW cI cZ cJ ao aa S).set 21 (ao 21, .inr (3, [.ref (aa 17), .ref (aa 18), .ref (aa 19), .int (gI S 23), .long (gL S 4), .long (gL S 5), .long (gL S 6), .long (gL S 7)].set 5 (.long v))) = xW cI cZ cJ ao aa (sL S 5 v) := rfl
set_option maxRecDepth 100000 in
theorem xs_21_worn {cI cZ cJ : ClassId} {ao aa : Nat → Nat} {S : St} {v : Int64} : (xW cI cZ cJ ao aa S).set 21 (ao 21, .inr (3, [.ref (aa 17), .ref (aa 18), .ref (aa 19), .int (gI S 23), .long (gL S 4), .long (gL S 5), .long (gL S 6), .long (gL S 7)].set 6 (.long v))) = xW cI cZ cJ ao aa (sL S 6 v) := rfl
set_option maxRecDepth 100000 in
theorem xs_21_creatures {cI cZ cJ : ClassId} {ao aa : Nat → Nat} {S : St} {v : Int64} : (xW cI cZ cJ ao aa S).set 21 (ao 21, .inr (3, [.ref (aa 17), .ref (aa 18), .ref (aa 19), .int (gI S 23), .long (gL S 4), .long (gL S 5), .long (gL S 6), .long (gL S 7)].set 7 (.long v))) = xW cI cZ cJ ao aa (sL S 7 v) := rfl
theorem xo_22 {cI cZ cJ : ClassId} {ao aa : Nat → Nat} {S : St} : (xW cI cZ cJ ao aa S)[22]? = some (ao 22, .inr (4, [.ref (ao 0), .ref (ao 1), .int (gI S 24)])) := rfl
set_option maxRecDepth 100000 in
theorem xs_22_count {cI cZ cJ : ClassId} {ao aa : Nat → Nat} {S : St} {v : Int32} : (xW cI cZ cJ ao aa S).set 22 (ao 22, .inr (4, [.ref (ao 0), .ref (ao 1), .int (gI S 24)].set 2 (.int v))) = xW cI cZ cJ ao aa (sI S 24 v) := rfl
theorem xo_23 {cI cZ cJ : ClassId} {ao aa : Nat → Nat} {S : St} : (xW cI cZ cJ ao aa S)[23]? = some (ao 23, .inr (5, [.ref (aa 20), .ref (aa 21), .ref (aa 22), .ref (aa 23), .ref (aa 24), .ref (aa 25), .int (gI S 25)])) := rfl
set_option maxRecDepth 100000 in
theorem xs_23_count {cI cZ cJ : ClassId} {ao aa : Nat → Nat} {S : St} {v : Int32} : (xW cI cZ cJ ao aa S).set 23 (ao 23, .inr (5, [.ref (aa 20), .ref (aa 21), .ref (aa 22), .ref (aa 23), .ref (aa 24), .ref (aa 25), .int (gI S 25)].set 6 (.int v))) = xW cI cZ cJ ao aa (sI S 25 v) := rfl
theorem xo_24 {cI cZ cJ : ClassId} {ao aa : Nat → Nat} {S : St} : (xW cI cZ cJ ao aa S)[24]? = some (ao 24, .inr (6, [.ref (ao 2), .ref (ao 3), .ref (ao 4)])) := rfl
theorem xo_25 {cI cZ cJ : ClassId} {ao aa : Nat → Nat} {S : St} : (xW cI cZ cJ ao aa S)[25]? = some (ao 25, .inr (7, [.ref (ao 21), .ref (ao 23), .ref (ao 24), .ref (ao 6), .ref (ao 20), .ref (ao 17), .ref (ao 18), .ref (ao 11), .ref (ao 12), .int (gI S 26), .int (gI S 27), .int (gI S 28), .int (gI S 29)])) := rfl
set_option maxRecDepth 100000 in
theorem xs_25_line {cI cZ cJ : ClassId} {ao aa : Nat → Nat} {S : St} {v : Int32} : (xW cI cZ cJ ao aa S).set 25 (ao 25, .inr (7, [.ref (ao 21), .ref (ao 23), .ref (ao 24), .ref (ao 6), .ref (ao 20), .ref (ao 17), .ref (ao 18), .ref (ao 11), .ref (ao 12), .int (gI S 26), .int (gI S 27), .int (gI S 28), .int (gI S 29)].set 9 (.int v))) = xW cI cZ cJ ao aa (sI S 26 v) := rfl
set_option maxRecDepth 100000 in
theorem xs_25_cursor {cI cZ cJ : ClassId} {ao aa : Nat → Nat} {S : St} {v : Int32} : (xW cI cZ cJ ao aa S).set 25 (ao 25, .inr (7, [.ref (ao 21), .ref (ao 23), .ref (ao 24), .ref (ao 6), .ref (ao 20), .ref (ao 17), .ref (ao 18), .ref (ao 11), .ref (ao 12), .int (gI S 26), .int (gI S 27), .int (gI S 28), .int (gI S 29)].set 10 (.int v))) = xW cI cZ cJ ao aa (sI S 27 v) := rfl
set_option maxRecDepth 100000 in
theorem xs_25_error {cI cZ cJ : ClassId} {ao aa : Nat → Nat} {S : St} {v : Int32} : (xW cI cZ cJ ao aa S).set 25 (ao 25, .inr (7, [.ref (ao 21), .ref (ao 23), .ref (ao 24), .ref (ao 6), .ref (ao 20), .ref (ao 17), .ref (ao 18), .ref (ao 11), .ref (ao 12), .int (gI S 26), .int (gI S 27), .int (gI S 28), .int (gI S 29)].set 11 (.int v))) = xW cI cZ cJ ao aa (sI S 28 v) := rfl
set_option maxRecDepth 100000 in
theorem xs_25_place {cI cZ cJ : ClassId} {ao aa : Nat → Nat} {S : St} {v : Int32} : (xW cI cZ cJ ao aa S).set 25 (ao 25, .inr (7, [.ref (ao 21), .ref (ao 23), .ref (ao 24), .ref (ao 6), .ref (ao 20), .ref (ao 17), .ref (ao 18), .ref (ao 11), .ref (ao 12), .int (gI S 26), .int (gI S 27), .int (gI S 28), .int (gI S 29)].set 12 (.int v))) = xW cI cZ cJ ao aa (sI S 29 v) := rfl
theorem xo_26 {cI cZ cJ : ClassId} {ao aa : Nat → Nat} {S : St} : (xW cI cZ cJ ao aa S)[26]? = some (ao 26, .inr (8, [.ref (ao 13), .ref (ao 14), .ref (ao 15), .ref (ao 16), .int (gI S 30), .int (gI S 31), .int (gI S 32), .int (gI S 33), .int (gI S 34)])) := rfl
set_option maxRecDepth 100000 in
theorem xs_26_action {cI cZ cJ : ClassId} {ao aa : Nat → Nat} {S : St} {v : Int32} : (xW cI cZ cJ ao aa S).set 26 (ao 26, .inr (8, [.ref (ao 13), .ref (ao 14), .ref (ao 15), .ref (ao 16), .int (gI S 30), .int (gI S 31), .int (gI S 32), .int (gI S 33), .int (gI S 34)].set 4 (.int v))) = xW cI cZ cJ ao aa (sI S 30 v) := rfl
set_option maxRecDepth 100000 in
theorem xs_26_error {cI cZ cJ : ClassId} {ao aa : Nat → Nat} {S : St} {v : Int32} : (xW cI cZ cJ ao aa S).set 26 (ao 26, .inr (8, [.ref (ao 13), .ref (ao 14), .ref (ao 15), .ref (ao 16), .int (gI S 30), .int (gI S 31), .int (gI S 32), .int (gI S 33), .int (gI S 34)].set 5 (.int v))) = xW cI cZ cJ ao aa (sI S 31 v) := rfl
set_option maxRecDepth 100000 in
theorem xs_26_place {cI cZ cJ : ClassId} {ao aa : Nat → Nat} {S : St} {v : Int32} : (xW cI cZ cJ ao aa S).set 26 (ao 26, .inr (8, [.ref (ao 13), .ref (ao 14), .ref (ao 15), .ref (ao 16), .int (gI S 30), .int (gI S 31), .int (gI S 32), .int (gI S 33), .int (gI S 34)].set 6 (.int v))) = xW cI cZ cJ ao aa (sI S 32 v) := rfl
set_option maxRecDepth 100000 in
theorem xs_26_line {cI cZ cJ : ClassId} {ao aa : Nat → Nat} {S : St} {v : Int32} : (xW cI cZ cJ ao aa S).set 26 (ao 26, .inr (8, [.ref (ao 13), .ref (ao 14), .ref (ao 15), .ref (ao 16), .int (gI S 30), .int (gI S 31), .int (gI S 32), .int (gI S 33), .int (gI S 34)].set 7 (.int v))) = xW cI cZ cJ ao aa (sI S 33 v) := rfl
set_option maxRecDepth 100000 in
theorem xs_26_phraseEnd {cI cZ cJ : ClassId} {ao aa : Nat → Nat} {S : St} {v : Int32} : (xW cI cZ cJ ao aa S).set 26 (ao 26, .inr (8, [.ref (ao 13), .ref (ao 14), .ref (ao 15), .ref (ao 16), .int (gI S 30), .int (gI S 31), .int (gI S 32), .int (gI S 33), .int (gI S 34)].set 8 (.int v))) = xW cI cZ cJ ao aa (sI S 34 v) := rfl
theorem xo_27 {cI cZ cJ : ClassId} {ao aa : Nat → Nat} {S : St} : (xW cI cZ cJ ao aa S)[27]? = some (ao 27, .inr (9, [.ref (ao 21), .ref (ao 22), .ref (ao 23), .ref (ao 24), .ref (ao 5), .ref (ao 6), .ref (ao 7), .ref (ao 8), .ref (ao 19), .ref (ao 25), .ref (ao 26), .int (gI S 35), .int (gI S 36)])) := rfl
set_option maxRecDepth 100000 in
theorem xs_27_recipient {cI cZ cJ : ClassId} {ao aa : Nat → Nat} {S : St} {v : Int32} : (xW cI cZ cJ ao aa S).set 27 (ao 27, .inr (9, [.ref (ao 21), .ref (ao 22), .ref (ao 23), .ref (ao 24), .ref (ao 5), .ref (ao 6), .ref (ao 7), .ref (ao 8), .ref (ao 19), .ref (ao 25), .ref (ao 26), .int (gI S 35), .int (gI S 36)].set 11 (.int v))) = xW cI cZ cJ ao aa (sI S 35 v) := rfl
set_option maxRecDepth 100000 in
theorem xs_27_doneTo {cI cZ cJ : ClassId} {ao aa : Nat → Nat} {S : St} {v : Int32} : (xW cI cZ cJ ao aa S).set 27 (ao 27, .inr (9, [.ref (ao 21), .ref (ao 22), .ref (ao 23), .ref (ao 24), .ref (ao 5), .ref (ao 6), .ref (ao 7), .ref (ao 8), .ref (ao 19), .ref (ao 25), .ref (ao 26), .int (gI S 35), .int (gI S 36)].set 12 (.int v))) = xW cI cZ cJ ao aa (sI S 36 v) := rfl
theorem xa_17 {cI cZ cJ : ClassId} {ao aa : Nat → Nat} {S : St} : (xW cI cZ cJ ao aa S)[45]? = some (aa 17, .inl (cI, 40, .inl (gA S 17))) := rfl
set_option maxRecDepth 100000 in
theorem xt_17 {cI cZ cJ : ClassId} {ao aa : Nat → Nat} {S : St} {i : Nat} {v : Int32} : (xW cI cZ cJ ao aa S).set 45 (aa 17, .inl (cI, 40, .inl (upd (gA S 17) i v))) = xW cI cZ cJ ao aa (sA S 17 i v) := rfl
theorem xa_18 {cI cZ cJ : ClassId} {ao aa : Nat → Nat} {S : St} : (xW cI cZ cJ ao aa S)[46]? = some (aa 18, .inl (cI, 40, .inl (gA S 18))) := rfl
set_option maxRecDepth 100000 in
theorem xt_18 {cI cZ cJ : ClassId} {ao aa : Nat → Nat} {S : St} {i : Nat} {v : Int32} : (xW cI cZ cJ ao aa S).set 46 (aa 18, .inl (cI, 40, .inl (upd (gA S 18) i v))) = xW cI cZ cJ ao aa (sA S 18 i v) := rfl
theorem xa_19 {cI cZ cJ : ClassId} {ao aa : Nat → Nat} {S : St} : (xW cI cZ cJ ao aa S)[47]? = some (aa 19, .inl (cI, 160, .inl (gA S 19))) := rfl
set_option maxRecDepth 100000 in
theorem xt_19 {cI cZ cJ : ClassId} {ao aa : Nat → Nat} {S : St} {i : Nat} {v : Int32} : (xW cI cZ cJ ao aa S).set 47 (aa 19, .inl (cI, 160, .inl (upd (gA S 19) i v))) = xW cI cZ cJ ao aa (sA S 19 i v) := rfl
theorem xa_20 {cI cZ cJ : ClassId} {ao aa : Nat → Nat} {S : St} : (xW cI cZ cJ ao aa S)[48]? = some (aa 20, .inl (cI, 60, .inl (gA S 20))) := rfl
set_option maxRecDepth 100000 in
theorem xt_20 {cI cZ cJ : ClassId} {ao aa : Nat → Nat} {S : St} {i : Nat} {v : Int32} : (xW cI cZ cJ ao aa S).set 48 (aa 20, .inl (cI, 60, .inl (upd (gA S 20) i v))) = xW cI cZ cJ ao aa (sA S 20 i v) := rfl
theorem xa_21 {cI cZ cJ : ClassId} {ao aa : Nat → Nat} {S : St} : (xW cI cZ cJ ao aa S)[49]? = some (aa 21, .inl (cI, 60, .inl (gA S 21))) := rfl
set_option maxRecDepth 100000 in
theorem xt_21 {cI cZ cJ : ClassId} {ao aa : Nat → Nat} {S : St} {i : Nat} {v : Int32} : (xW cI cZ cJ ao aa S).set 49 (aa 21, .inl (cI, 60, .inl (upd (gA S 21) i v))) = xW cI cZ cJ ao aa (sA S 21 i v) := rfl
theorem xa_22 {cI cZ cJ : ClassId} {ao aa : Nat → Nat} {S : St} : (xW cI cZ cJ ao aa S)[50]? = some (aa 22, .inl (cZ, 60, .inl (gA S 22))) := rfl
set_option maxRecDepth 100000 in
theorem xt_22 {cI cZ cJ : ClassId} {ao aa : Nat → Nat} {S : St} {i : Nat} {v : Int32} : (xW cI cZ cJ ao aa S).set 50 (aa 22, .inl (cZ, 60, .inl (upd (gA S 22) i v))) = xW cI cZ cJ ao aa (sA S 22 i v) := rfl
theorem xa_23 {cI cZ cJ : ClassId} {ao aa : Nat → Nat} {S : St} : (xW cI cZ cJ ao aa S)[51]? = some (aa 23, .inl (cI, 60, .inl (gA S 23))) := rfl
set_option maxRecDepth 100000 in
theorem xt_23 {cI cZ cJ : ClassId} {ao aa : Nat → Nat} {S : St} {i : Nat} {v : Int32} : (xW cI cZ cJ ao aa S).set 51 (aa 23, .inl (cI, 60, .inl (upd (gA S 23) i v))) = xW cI cZ cJ ao aa (sA S 23 i v) := rfl
theorem xa_24 {cI cZ cJ : ClassId} {ao aa : Nat → Nat} {S : St} : (xW cI cZ cJ ao aa S)[52]? = some (aa 24, .inl (cI, 480, .inl (gA S 24))) := rfl
set_option maxRecDepth 100000 in
theorem xt_24 {cI cZ cJ : ClassId} {ao aa : Nat → Nat} {S : St} {i : Nat} {v : Int32} : (xW cI cZ cJ ao aa S).set 52 (aa 24, .inl (cI, 480, .inl (upd (gA S 24) i v))) = xW cI cZ cJ ao aa (sA S 24 i v) := rfl
theorem xa_25 {cI cZ cJ : ClassId} {ao aa : Nat → Nat} {S : St} : (xW cI cZ cJ ao aa S)[53]? = some (aa 25, .inl (cI, 480, .inl (gA S 25))) := rfl
set_option maxRecDepth 100000 in
theorem xt_25 {cI cZ cJ : ClassId} {ao aa : Nat → Nat} {S : St} {i : Nat} {v : Int32} : (xW cI cZ cJ ao aa S).set 53 (aa 25, .inl (cI, 480, .inl (upd (gA S 25) i v))) = xW cI cZ cJ ao aa (sA S 25 i v) := rfl
end
section
def mW (cI cZ cJ : ClassId) (ao aa : Nat → Nat) (S : St) : va_W := [(ao 0, .inr (10, [.int (gI S 0), .int (gI S 1), .ref (aa 0), .ref (aa 1), .int (gI S 2), .ref (aa 2), .ref (aa 3), .ref (aa 4), .ref (aa 5), .ref (aa 6), .ref (aa 7), .int (gI S 3), .ref (aa 8), .ref (aa 9), .ref (aa 10), .int (gI S 4), .ref (aa 11), .ref (aa 12), .ref (aa 13), .int (gI S 5), .ref (aa 14), .ref (aa 15), .int (gI S 6), .long (gL S 0), .int (gI S 7), .int (gI S 8), .long (gL S 1), .int (gI S 9), .int (gI S 10), .int (gI S 11), .ref (aa 16), .int (gI S 12), .ref (aa 17), .int (gI S 13), .ref (aa 18), .ref (aa 19), .ref (aa 20), .ref (aa 21), .ref (aa 22), .ref (aa 23), .int (gI S 14), .ref (aa 24), .int (gI S 15), .int (gI S 16), .ref (aa 25), .ref (aa 26), .ref (aa 27), .int (gI S 17), .int (gI S 18), .int (gI S 19), .int (gI S 20), .int (gI S 21), .int (gI S 22), .int (gI S 23), .ref (aa 28), .int (gI S 24)])), (aa 0, .inl (cI, 60, .inl (gA S 0))), (aa 1, .inl (cI, 60, .inl (gA S 1))), (aa 2, .inl (cI, 60, .inl (gA S 2))), (aa 3, .inl (cI, 60, .inl (gA S 3))), (aa 4, .inl (cZ, 60, .inl (gA S 4))), (aa 5, .inl (cI, 60, .inl (gA S 5))), (aa 6, .inl (cI, 480, .inl (gA S 6))), (aa 7, .inl (cI, 480, .inl (gA S 7))), (aa 8, .inl (cI, 40, .inl (gA S 8))), (aa 9, .inl (cI, 40, .inl (gA S 9))), (aa 10, .inl (cI, 160, .inl (gA S 10))), (aa 11, .inl (cI, 40, .inl (gA S 11))), (aa 12, .inl (cI, 40, .inl (gA S 12))), (aa 13, .inl (cI, 40, .inl (gA S 13))), (aa 14, .inl (cI, 60, .inl (gA S 14))), (aa 15, .inl (cI, 60, .inl (gA S 15))), (aa 16, .inl (cI, 8, .inl (gA S 16))), (aa 17, .inl (cI, 8, .inl (gA S 17))), (aa 18, .inl (cI, 2, .inl (gA S 18))), (aa 19, .inl (cI, 2, .inl (gA S 19))), (aa 20, .inl (cJ, 2, .inr (.inl (gB S 20)))), (aa 21, .inl (cI, 2, .inl (gA S 21))), (aa 22, .inl (cI, 2, .inl (gA S 22))), (aa 23, .inl (cI, 2, .inl (gA S 23))), (aa 24, .inl (cI, 60, .inl (gA S 24))), (aa 25, .inl (cI, 60, .inl (gA S 25))), (aa 26, .inl (cI, 60, .inl (gA S 26))), (aa 27, .inl (cI, 60, .inl (gA S 27))), (aa 28, .inl (cI, 60, .inl (gA S 28)))]
def mA (ao aa : Nat → Nat) : Nat → Prop := fun q => (∃ k, k < 1 ∧ q = ao k) ∨ ∃ k, k < 29 ∧ q = aa k
theorem mo_0 {cI cZ cJ : ClassId} {ao aa : Nat → Nat} {S : St} : (mW cI cZ cJ ao aa S)[0]? = some (ao 0, .inr (10, [.int (gI S 0), .int (gI S 1), .ref (aa 0), .ref (aa 1), .int (gI S 2), .ref (aa 2), .ref (aa 3), .ref (aa 4), .ref (aa 5), .ref (aa 6), .ref (aa 7), .int (gI S 3), .ref (aa 8), .ref (aa 9), .ref (aa 10), .int (gI S 4), .ref (aa 11), .ref (aa 12), .ref (aa 13), .int (gI S 5), .ref (aa 14), .ref (aa 15), .int (gI S 6), .long (gL S 0), .int (gI S 7), .int (gI S 8), .long (gL S 1), .int (gI S 9), .int (gI S 10), .int (gI S 11), .ref (aa 16), .int (gI S 12), .ref (aa 17), .int (gI S 13), .ref (aa 18), .ref (aa 19), .ref (aa 20), .ref (aa 21), .ref (aa 22), .ref (aa 23), .int (gI S 14), .ref (aa 24), .int (gI S 15), .int (gI S 16), .ref (aa 25), .ref (aa 26), .ref (aa 27), .int (gI S 17), .int (gI S 18), .int (gI S 19), .int (gI S 20), .int (gI S 21), .int (gI S 22), .int (gI S 23), .ref (aa 28), .int (gI S 24)])) := rfl
set_option maxRecDepth 100000 in
theorem ms_0_verbs {cI cZ cJ : ClassId} {ao aa : Nat → Nat} {S : St} {v : Int32} : (mW cI cZ cJ ao aa S).set 0 (ao 0, .inr (10, [.int (gI S 0), .int (gI S 1), .ref (aa 0), .ref (aa 1), .int (gI S 2), .ref (aa 2), .ref (aa 3), .ref (aa 4), .ref (aa 5), .ref (aa 6), .ref (aa 7), .int (gI S 3), .ref (aa 8), .ref (aa 9), .ref (aa 10), .int (gI S 4), .ref (aa 11), .ref (aa 12), .ref (aa 13), .int (gI S 5), .ref (aa 14), .ref (aa 15), .int (gI S 6), .long (gL S 0), .int (gI S 7), .int (gI S 8), .long (gL S 1), .int (gI S 9), .int (gI S 10), .int (gI S 11), .ref (aa 16), .int (gI S 12), .ref (aa 17), .int (gI S 13), .ref (aa 18), .ref (aa 19), .ref (aa 20), .ref (aa 21), .ref (aa 22), .ref (aa 23), .int (gI S 14), .ref (aa 24), .int (gI S 15), .int (gI S 16), .ref (aa 25), .ref (aa 26), .ref (aa 27), .int (gI S 17), .int (gI S 18), .int (gI S 19), .int (gI S 20), .int (gI S 21), .int (gI S 22), .int (gI S 23), .ref (aa 28), .int (gI S 24)].set 0 (.int v))) = mW cI cZ cJ ao aa (sI S 0 v) := rfl
set_option maxRecDepth 100000 in
theorem ms_0_verbWords {cI cZ cJ : ClassId} {ao aa : Nat → Nat} {S : St} {v : Int32} : (mW cI cZ cJ ao aa S).set 0 (ao 0, .inr (10, [.int (gI S 0), .int (gI S 1), .ref (aa 0), .ref (aa 1), .int (gI S 2), .ref (aa 2), .ref (aa 3), .ref (aa 4), .ref (aa 5), .ref (aa 6), .ref (aa 7), .int (gI S 3), .ref (aa 8), .ref (aa 9), .ref (aa 10), .int (gI S 4), .ref (aa 11), .ref (aa 12), .ref (aa 13), .int (gI S 5), .ref (aa 14), .ref (aa 15), .int (gI S 6), .long (gL S 0), .int (gI S 7), .int (gI S 8), .long (gL S 1), .int (gI S 9), .int (gI S 10), .int (gI S 11), .ref (aa 16), .int (gI S 12), .ref (aa 17), .int (gI S 13), .ref (aa 18), .ref (aa 19), .ref (aa 20), .ref (aa 21), .ref (aa 22), .ref (aa 23), .int (gI S 14), .ref (aa 24), .int (gI S 15), .int (gI S 16), .ref (aa 25), .ref (aa 26), .ref (aa 27), .int (gI S 17), .int (gI S 18), .int (gI S 19), .int (gI S 20), .int (gI S 21), .int (gI S 22), .int (gI S 23), .ref (aa 28), .int (gI S 24)].set 1 (.int v))) = mW cI cZ cJ ao aa (sI S 1 v) := rfl
set_option maxRecDepth 100000 in
theorem ms_0_lines {cI cZ cJ : ClassId} {ao aa : Nat → Nat} {S : St} {v : Int32} : (mW cI cZ cJ ao aa S).set 0 (ao 0, .inr (10, [.int (gI S 0), .int (gI S 1), .ref (aa 0), .ref (aa 1), .int (gI S 2), .ref (aa 2), .ref (aa 3), .ref (aa 4), .ref (aa 5), .ref (aa 6), .ref (aa 7), .int (gI S 3), .ref (aa 8), .ref (aa 9), .ref (aa 10), .int (gI S 4), .ref (aa 11), .ref (aa 12), .ref (aa 13), .int (gI S 5), .ref (aa 14), .ref (aa 15), .int (gI S 6), .long (gL S 0), .int (gI S 7), .int (gI S 8), .long (gL S 1), .int (gI S 9), .int (gI S 10), .int (gI S 11), .ref (aa 16), .int (gI S 12), .ref (aa 17), .int (gI S 13), .ref (aa 18), .ref (aa 19), .ref (aa 20), .ref (aa 21), .ref (aa 22), .ref (aa 23), .int (gI S 14), .ref (aa 24), .int (gI S 15), .int (gI S 16), .ref (aa 25), .ref (aa 26), .ref (aa 27), .int (gI S 17), .int (gI S 18), .int (gI S 19), .int (gI S 20), .int (gI S 21), .int (gI S 22), .int (gI S 23), .ref (aa 28), .int (gI S 24)].set 4 (.int v))) = mW cI cZ cJ ao aa (sI S 2 v) := rfl
set_option maxRecDepth 100000 in
theorem ms_0_things {cI cZ cJ : ClassId} {ao aa : Nat → Nat} {S : St} {v : Int32} : (mW cI cZ cJ ao aa S).set 0 (ao 0, .inr (10, [.int (gI S 0), .int (gI S 1), .ref (aa 0), .ref (aa 1), .int (gI S 2), .ref (aa 2), .ref (aa 3), .ref (aa 4), .ref (aa 5), .ref (aa 6), .ref (aa 7), .int (gI S 3), .ref (aa 8), .ref (aa 9), .ref (aa 10), .int (gI S 4), .ref (aa 11), .ref (aa 12), .ref (aa 13), .int (gI S 5), .ref (aa 14), .ref (aa 15), .int (gI S 6), .long (gL S 0), .int (gI S 7), .int (gI S 8), .long (gL S 1), .int (gI S 9), .int (gI S 10), .int (gI S 11), .ref (aa 16), .int (gI S 12), .ref (aa 17), .int (gI S 13), .ref (aa 18), .ref (aa 19), .ref (aa 20), .ref (aa 21), .ref (aa 22), .ref (aa 23), .int (gI S 14), .ref (aa 24), .int (gI S 15), .int (gI S 16), .ref (aa 25), .ref (aa 26), .ref (aa 27), .int (gI S 17), .int (gI S 18), .int (gI S 19), .int (gI S 20), .int (gI S 21), .int (gI S 22), .int (gI S 23), .ref (aa 28), .int (gI S 24)].set 11 (.int v))) = mW cI cZ cJ ao aa (sI S 3 v) := rfl
set_option maxRecDepth 100000 in
theorem ms_0_pairs {cI cZ cJ : ClassId} {ao aa : Nat → Nat} {S : St} {v : Int32} : (mW cI cZ cJ ao aa S).set 0 (ao 0, .inr (10, [.int (gI S 0), .int (gI S 1), .ref (aa 0), .ref (aa 1), .int (gI S 2), .ref (aa 2), .ref (aa 3), .ref (aa 4), .ref (aa 5), .ref (aa 6), .ref (aa 7), .int (gI S 3), .ref (aa 8), .ref (aa 9), .ref (aa 10), .int (gI S 4), .ref (aa 11), .ref (aa 12), .ref (aa 13), .int (gI S 5), .ref (aa 14), .ref (aa 15), .int (gI S 6), .long (gL S 0), .int (gI S 7), .int (gI S 8), .long (gL S 1), .int (gI S 9), .int (gI S 10), .int (gI S 11), .ref (aa 16), .int (gI S 12), .ref (aa 17), .int (gI S 13), .ref (aa 18), .ref (aa 19), .ref (aa 20), .ref (aa 21), .ref (aa 22), .ref (aa 23), .int (gI S 14), .ref (aa 24), .int (gI S 15), .int (gI S 16), .ref (aa 25), .ref (aa 26), .ref (aa 27), .int (gI S 17), .int (gI S 18), .int (gI S 19), .int (gI S 20), .int (gI S 21), .int (gI S 22), .int (gI S 23), .ref (aa 28), .int (gI S 24)].set 15 (.int v))) = mW cI cZ cJ ao aa (sI S 4 v) := rfl
set_option maxRecDepth 100000 in
theorem ms_0_inputMany {cI cZ cJ : ClassId} {ao aa : Nat → Nat} {S : St} {v : Int32} : (mW cI cZ cJ ao aa S).set 0 (ao 0, .inr (10, [.int (gI S 0), .int (gI S 1), .ref (aa 0), .ref (aa 1), .int (gI S 2), .ref (aa 2), .ref (aa 3), .ref (aa 4), .ref (aa 5), .ref (aa 6), .ref (aa 7), .int (gI S 3), .ref (aa 8), .ref (aa 9), .ref (aa 10), .int (gI S 4), .ref (aa 11), .ref (aa 12), .ref (aa 13), .int (gI S 5), .ref (aa 14), .ref (aa 15), .int (gI S 6), .long (gL S 0), .int (gI S 7), .int (gI S 8), .long (gL S 1), .int (gI S 9), .int (gI S 10), .int (gI S 11), .ref (aa 16), .int (gI S 12), .ref (aa 17), .int (gI S 13), .ref (aa 18), .ref (aa 19), .ref (aa 20), .ref (aa 21), .ref (aa 22), .ref (aa 23), .int (gI S 14), .ref (aa 24), .int (gI S 15), .int (gI S 16), .ref (aa 25), .ref (aa 26), .ref (aa 27), .int (gI S 17), .int (gI S 18), .int (gI S 19), .int (gI S 20), .int (gI S 21), .int (gI S 22), .int (gI S 23), .ref (aa 28), .int (gI S 24)].set 19 (.int v))) = mW cI cZ cJ ao aa (sI S 5 v) := rfl
set_option maxRecDepth 100000 in
theorem ms_0_rowMany {cI cZ cJ : ClassId} {ao aa : Nat → Nat} {S : St} {v : Int32} : (mW cI cZ cJ ao aa S).set 0 (ao 0, .inr (10, [.int (gI S 0), .int (gI S 1), .ref (aa 0), .ref (aa 1), .int (gI S 2), .ref (aa 2), .ref (aa 3), .ref (aa 4), .ref (aa 5), .ref (aa 6), .ref (aa 7), .int (gI S 3), .ref (aa 8), .ref (aa 9), .ref (aa 10), .int (gI S 4), .ref (aa 11), .ref (aa 12), .ref (aa 13), .int (gI S 5), .ref (aa 14), .ref (aa 15), .int (gI S 6), .long (gL S 0), .int (gI S 7), .int (gI S 8), .long (gL S 1), .int (gI S 9), .int (gI S 10), .int (gI S 11), .ref (aa 16), .int (gI S 12), .ref (aa 17), .int (gI S 13), .ref (aa 18), .ref (aa 19), .ref (aa 20), .ref (aa 21), .ref (aa 22), .ref (aa 23), .int (gI S 14), .ref (aa 24), .int (gI S 15), .int (gI S 16), .ref (aa 25), .ref (aa 26), .ref (aa 27), .int (gI S 17), .int (gI S 18), .int (gI S 19), .int (gI S 20), .int (gI S 21), .int (gI S 22), .int (gI S 23), .ref (aa 28), .int (gI S 24)].set 22 (.int v))) = mW cI cZ cJ ao aa (sI S 6 v) := rfl
set_option maxRecDepth 100000 in
theorem ms_0_phraseThings {cI cZ cJ : ClassId} {ao aa : Nat → Nat} {S : St} {v : Int64} : (mW cI cZ cJ ao aa S).set 0 (ao 0, .inr (10, [.int (gI S 0), .int (gI S 1), .ref (aa 0), .ref (aa 1), .int (gI S 2), .ref (aa 2), .ref (aa 3), .ref (aa 4), .ref (aa 5), .ref (aa 6), .ref (aa 7), .int (gI S 3), .ref (aa 8), .ref (aa 9), .ref (aa 10), .int (gI S 4), .ref (aa 11), .ref (aa 12), .ref (aa 13), .int (gI S 5), .ref (aa 14), .ref (aa 15), .int (gI S 6), .long (gL S 0), .int (gI S 7), .int (gI S 8), .long (gL S 1), .int (gI S 9), .int (gI S 10), .int (gI S 11), .ref (aa 16), .int (gI S 12), .ref (aa 17), .int (gI S 13), .ref (aa 18), .ref (aa 19), .ref (aa 20), .ref (aa 21), .ref (aa 22), .ref (aa 23), .int (gI S 14), .ref (aa 24), .int (gI S 15), .int (gI S 16), .ref (aa 25), .ref (aa 26), .ref (aa 27), .int (gI S 17), .int (gI S 18), .int (gI S 19), .int (gI S 20), .int (gI S 21), .int (gI S 22), .int (gI S 23), .ref (aa 28), .int (gI S 24)].set 23 (.long v))) = mW cI cZ cJ ao aa (sL S 0 v) := rfl
set_option maxRecDepth 100000 in
theorem ms_0_error {cI cZ cJ : ClassId} {ao aa : Nat → Nat} {S : St} {v : Int32} : (mW cI cZ cJ ao aa S).set 0 (ao 0, .inr (10, [.int (gI S 0), .int (gI S 1), .ref (aa 0), .ref (aa 1), .int (gI S 2), .ref (aa 2), .ref (aa 3), .ref (aa 4), .ref (aa 5), .ref (aa 6), .ref (aa 7), .int (gI S 3), .ref (aa 8), .ref (aa 9), .ref (aa 10), .int (gI S 4), .ref (aa 11), .ref (aa 12), .ref (aa 13), .int (gI S 5), .ref (aa 14), .ref (aa 15), .int (gI S 6), .long (gL S 0), .int (gI S 7), .int (gI S 8), .long (gL S 1), .int (gI S 9), .int (gI S 10), .int (gI S 11), .ref (aa 16), .int (gI S 12), .ref (aa 17), .int (gI S 13), .ref (aa 18), .ref (aa 19), .ref (aa 20), .ref (aa 21), .ref (aa 22), .ref (aa 23), .int (gI S 14), .ref (aa 24), .int (gI S 15), .int (gI S 16), .ref (aa 25), .ref (aa 26), .ref (aa 27), .int (gI S 17), .int (gI S 18), .int (gI S 19), .int (gI S 20), .int (gI S 21), .int (gI S 22), .int (gI S 23), .ref (aa 28), .int (gI S 24)].set 24 (.int v))) = mW cI cZ cJ ao aa (sI S 7 v) := rfl
set_option maxRecDepth 100000 in
theorem ms_0_place {cI cZ cJ : ClassId} {ao aa : Nat → Nat} {S : St} {v : Int32} : (mW cI cZ cJ ao aa S).set 0 (ao 0, .inr (10, [.int (gI S 0), .int (gI S 1), .ref (aa 0), .ref (aa 1), .int (gI S 2), .ref (aa 2), .ref (aa 3), .ref (aa 4), .ref (aa 5), .ref (aa 6), .ref (aa 7), .int (gI S 3), .ref (aa 8), .ref (aa 9), .ref (aa 10), .int (gI S 4), .ref (aa 11), .ref (aa 12), .ref (aa 13), .int (gI S 5), .ref (aa 14), .ref (aa 15), .int (gI S 6), .long (gL S 0), .int (gI S 7), .int (gI S 8), .long (gL S 1), .int (gI S 9), .int (gI S 10), .int (gI S 11), .ref (aa 16), .int (gI S 12), .ref (aa 17), .int (gI S 13), .ref (aa 18), .ref (aa 19), .ref (aa 20), .ref (aa 21), .ref (aa 22), .ref (aa 23), .int (gI S 14), .ref (aa 24), .int (gI S 15), .int (gI S 16), .ref (aa 25), .ref (aa 26), .ref (aa 27), .int (gI S 17), .int (gI S 18), .int (gI S 19), .int (gI S 20), .int (gI S 21), .int (gI S 22), .int (gI S 23), .ref (aa 28), .int (gI S 24)].set 25 (.int v))) = mW cI cZ cJ ao aa (sI S 8 v) := rfl
set_option maxRecDepth 100000 in
theorem ms_0_which {cI cZ cJ : ClassId} {ao aa : Nat → Nat} {S : St} {v : Int64} : (mW cI cZ cJ ao aa S).set 0 (ao 0, .inr (10, [.int (gI S 0), .int (gI S 1), .ref (aa 0), .ref (aa 1), .int (gI S 2), .ref (aa 2), .ref (aa 3), .ref (aa 4), .ref (aa 5), .ref (aa 6), .ref (aa 7), .int (gI S 3), .ref (aa 8), .ref (aa 9), .ref (aa 10), .int (gI S 4), .ref (aa 11), .ref (aa 12), .ref (aa 13), .int (gI S 5), .ref (aa 14), .ref (aa 15), .int (gI S 6), .long (gL S 0), .int (gI S 7), .int (gI S 8), .long (gL S 1), .int (gI S 9), .int (gI S 10), .int (gI S 11), .ref (aa 16), .int (gI S 12), .ref (aa 17), .int (gI S 13), .ref (aa 18), .ref (aa 19), .ref (aa 20), .ref (aa 21), .ref (aa 22), .ref (aa 23), .int (gI S 14), .ref (aa 24), .int (gI S 15), .int (gI S 16), .ref (aa 25), .ref (aa 26), .ref (aa 27), .int (gI S 17), .int (gI S 18), .int (gI S 19), .int (gI S 20), .int (gI S 21), .int (gI S 22), .int (gI S 23), .ref (aa 28), .int (gI S 24)].set 26 (.long v))) = mW cI cZ cJ ao aa (sL S 1 v) := rfl
set_option maxRecDepth 100000 in
theorem ms_0_phraseEnd {cI cZ cJ : ClassId} {ao aa : Nat → Nat} {S : St} {v : Int32} : (mW cI cZ cJ ao aa S).set 0 (ao 0, .inr (10, [.int (gI S 0), .int (gI S 1), .ref (aa 0), .ref (aa 1), .int (gI S 2), .ref (aa 2), .ref (aa 3), .ref (aa 4), .ref (aa 5), .ref (aa 6), .ref (aa 7), .int (gI S 3), .ref (aa 8), .ref (aa 9), .ref (aa 10), .int (gI S 4), .ref (aa 11), .ref (aa 12), .ref (aa 13), .int (gI S 5), .ref (aa 14), .ref (aa 15), .int (gI S 6), .long (gL S 0), .int (gI S 7), .int (gI S 8), .long (gL S 1), .int (gI S 9), .int (gI S 10), .int (gI S 11), .ref (aa 16), .int (gI S 12), .ref (aa 17), .int (gI S 13), .ref (aa 18), .ref (aa 19), .ref (aa 20), .ref (aa 21), .ref (aa 22), .ref (aa 23), .int (gI S 14), .ref (aa 24), .int (gI S 15), .int (gI S 16), .ref (aa 25), .ref (aa 26), .ref (aa 27), .int (gI S 17), .int (gI S 18), .int (gI S 19), .int (gI S 20), .int (gI S 21), .int (gI S 22), .int (gI S 23), .ref (aa 28), .int (gI S 24)].set 27 (.int v))) = mW cI cZ cJ ao aa (sI S 9 v) := rfl
set_option maxRecDepth 100000 in
theorem ms_0_lacks {cI cZ cJ : ClassId} {ao aa : Nat → Nat} {S : St} {v : Int32} : (mW cI cZ cJ ao aa S).set 0 (ao 0, .inr (10, [.int (gI S 0), .int (gI S 1), .ref (aa 0), .ref (aa 1), .int (gI S 2), .ref (aa 2), .ref (aa 3), .ref (aa 4), .ref (aa 5), .ref (aa 6), .ref (aa 7), .int (gI S 3), .ref (aa 8), .ref (aa 9), .ref (aa 10), .int (gI S 4), .ref (aa 11), .ref (aa 12), .ref (aa 13), .int (gI S 5), .ref (aa 14), .ref (aa 15), .int (gI S 6), .long (gL S 0), .int (gI S 7), .int (gI S 8), .long (gL S 1), .int (gI S 9), .int (gI S 10), .int (gI S 11), .ref (aa 16), .int (gI S 12), .ref (aa 17), .int (gI S 13), .ref (aa 18), .ref (aa 19), .ref (aa 20), .ref (aa 21), .ref (aa 22), .ref (aa 23), .int (gI S 14), .ref (aa 24), .int (gI S 15), .int (gI S 16), .ref (aa 25), .ref (aa 26), .ref (aa 27), .int (gI S 17), .int (gI S 18), .int (gI S 19), .int (gI S 20), .int (gI S 21), .int (gI S 22), .int (gI S 23), .ref (aa 28), .int (gI S 24)].set 28 (.int v))) = mW cI cZ cJ ao aa (sI S 10 v) := rfl
set_option maxRecDepth 100000 in
theorem ms_0_toldMany {cI cZ cJ : ClassId} {ao aa : Nat → Nat} {S : St} {v : Int32} : (mW cI cZ cJ ao aa S).set 0 (ao 0, .inr (10, [.int (gI S 0), .int (gI S 1), .ref (aa 0), .ref (aa 1), .int (gI S 2), .ref (aa 2), .ref (aa 3), .ref (aa 4), .ref (aa 5), .ref (aa 6), .ref (aa 7), .int (gI S 3), .ref (aa 8), .ref (aa 9), .ref (aa 10), .int (gI S 4), .ref (aa 11), .ref (aa 12), .ref (aa 13), .int (gI S 5), .ref (aa 14), .ref (aa 15), .int (gI S 6), .long (gL S 0), .int (gI S 7), .int (gI S 8), .long (gL S 1), .int (gI S 9), .int (gI S 10), .int (gI S 11), .ref (aa 16), .int (gI S 12), .ref (aa 17), .int (gI S 13), .ref (aa 18), .ref (aa 19), .ref (aa 20), .ref (aa 21), .ref (aa 22), .ref (aa 23), .int (gI S 14), .ref (aa 24), .int (gI S 15), .int (gI S 16), .ref (aa 25), .ref (aa 26), .ref (aa 27), .int (gI S 17), .int (gI S 18), .int (gI S 19), .int (gI S 20), .int (gI S 21), .int (gI S 22), .int (gI S 23), .ref (aa 28), .int (gI S 24)].set 29 (.int v))) = mW cI cZ cJ ao aa (sI S 11 v) := rfl
set_option maxRecDepth 100000 in
theorem ms_0_fills {cI cZ cJ : ClassId} {ao aa : Nat → Nat} {S : St} {v : Int32} : (mW cI cZ cJ ao aa S).set 0 (ao 0, .inr (10, [.int (gI S 0), .int (gI S 1), .ref (aa 0), .ref (aa 1), .int (gI S 2), .ref (aa 2), .ref (aa 3), .ref (aa 4), .ref (aa 5), .ref (aa 6), .ref (aa 7), .int (gI S 3), .ref (aa 8), .ref (aa 9), .ref (aa 10), .int (gI S 4), .ref (aa 11), .ref (aa 12), .ref (aa 13), .int (gI S 5), .ref (aa 14), .ref (aa 15), .int (gI S 6), .long (gL S 0), .int (gI S 7), .int (gI S 8), .long (gL S 1), .int (gI S 9), .int (gI S 10), .int (gI S 11), .ref (aa 16), .int (gI S 12), .ref (aa 17), .int (gI S 13), .ref (aa 18), .ref (aa 19), .ref (aa 20), .ref (aa 21), .ref (aa 22), .ref (aa 23), .int (gI S 14), .ref (aa 24), .int (gI S 15), .int (gI S 16), .ref (aa 25), .ref (aa 26), .ref (aa 27), .int (gI S 17), .int (gI S 18), .int (gI S 19), .int (gI S 20), .int (gI S 21), .int (gI S 22), .int (gI S 23), .ref (aa 28), .int (gI S 24)].set 31 (.int v))) = mW cI cZ cJ ao aa (sI S 12 v) := rfl
set_option maxRecDepth 100000 in
theorem ms_0_slotMany {cI cZ cJ : ClassId} {ao aa : Nat → Nat} {S : St} {v : Int32} : (mW cI cZ cJ ao aa S).set 0 (ao 0, .inr (10, [.int (gI S 0), .int (gI S 1), .ref (aa 0), .ref (aa 1), .int (gI S 2), .ref (aa 2), .ref (aa 3), .ref (aa 4), .ref (aa 5), .ref (aa 6), .ref (aa 7), .int (gI S 3), .ref (aa 8), .ref (aa 9), .ref (aa 10), .int (gI S 4), .ref (aa 11), .ref (aa 12), .ref (aa 13), .int (gI S 5), .ref (aa 14), .ref (aa 15), .int (gI S 6), .long (gL S 0), .int (gI S 7), .int (gI S 8), .long (gL S 1), .int (gI S 9), .int (gI S 10), .int (gI S 11), .ref (aa 16), .int (gI S 12), .ref (aa 17), .int (gI S 13), .ref (aa 18), .ref (aa 19), .ref (aa 20), .ref (aa 21), .ref (aa 22), .ref (aa 23), .int (gI S 14), .ref (aa 24), .int (gI S 15), .int (gI S 16), .ref (aa 25), .ref (aa 26), .ref (aa 27), .int (gI S 17), .int (gI S 18), .int (gI S 19), .int (gI S 20), .int (gI S 21), .int (gI S 22), .int (gI S 23), .ref (aa 28), .int (gI S 24)].set 33 (.int v))) = mW cI cZ cJ ao aa (sI S 13 v) := rfl
set_option maxRecDepth 100000 in
theorem ms_0_commandMany {cI cZ cJ : ClassId} {ao aa : Nat → Nat} {S : St} {v : Int32} : (mW cI cZ cJ ao aa S).set 0 (ao 0, .inr (10, [.int (gI S 0), .int (gI S 1), .ref (aa 0), .ref (aa 1), .int (gI S 2), .ref (aa 2), .ref (aa 3), .ref (aa 4), .ref (aa 5), .ref (aa 6), .ref (aa 7), .int (gI S 3), .ref (aa 8), .ref (aa 9), .ref (aa 10), .int (gI S 4), .ref (aa 11), .ref (aa 12), .ref (aa 13), .int (gI S 5), .ref (aa 14), .ref (aa 15), .int (gI S 6), .long (gL S 0), .int (gI S 7), .int (gI S 8), .long (gL S 1), .int (gI S 9), .int (gI S 10), .int (gI S 11), .ref (aa 16), .int (gI S 12), .ref (aa 17), .int (gI S 13), .ref (aa 18), .ref (aa 19), .ref (aa 20), .ref (aa 21), .ref (aa 22), .ref (aa 23), .int (gI S 14), .ref (aa 24), .int (gI S 15), .int (gI S 16), .ref (aa 25), .ref (aa 26), .ref (aa 27), .int (gI S 17), .int (gI S 18), .int (gI S 19), .int (gI S 20), .int (gI S 21), .int (gI S 22), .int (gI S 23), .ref (aa 28), .int (gI S 24)].set 40 (.int v))) = mW cI cZ cJ ao aa (sI S 14 v) := rfl
set_option maxRecDepth 100000 in
theorem ms_0_toWhom {cI cZ cJ : ClassId} {ao aa : Nat → Nat} {S : St} {v : Int32} : (mW cI cZ cJ ao aa S).set 0 (ao 0, .inr (10, [.int (gI S 0), .int (gI S 1), .ref (aa 0), .ref (aa 1), .int (gI S 2), .ref (aa 2), .ref (aa 3), .ref (aa 4), .ref (aa 5), .ref (aa 6), .ref (aa 7), .int (gI S 3), .ref (aa 8), .ref (aa 9), .ref (aa 10), .int (gI S 4), .ref (aa 11), .ref (aa 12), .ref (aa 13), .int (gI S 5), .ref (aa 14), .ref (aa 15), .int (gI S 6), .long (gL S 0), .int (gI S 7), .int (gI S 8), .long (gL S 1), .int (gI S 9), .int (gI S 10), .int (gI S 11), .ref (aa 16), .int (gI S 12), .ref (aa 17), .int (gI S 13), .ref (aa 18), .ref (aa 19), .ref (aa 20), .ref (aa 21), .ref (aa 22), .ref (aa 23), .int (gI S 14), .ref (aa 24), .int (gI S 15), .int (gI S 16), .ref (aa 25), .ref (aa 26), .ref (aa 27), .int (gI S 17), .int (gI S 18), .int (gI S 19), .int (gI S 20), .int (gI S 21), .int (gI S 22), .int (gI S 23), .ref (aa 28), .int (gI S 24)].set 42 (.int v))) = mW cI cZ cJ ao aa (sI S 15 v) := rfl
set_option maxRecDepth 100000 in
theorem ms_0_tried {cI cZ cJ : ClassId} {ao aa : Nat → Nat} {S : St} {v : Int32} : (mW cI cZ cJ ao aa S).set 0 (ao 0, .inr (10, [.int (gI S 0), .int (gI S 1), .ref (aa 0), .ref (aa 1), .int (gI S 2), .ref (aa 2), .ref (aa 3), .ref (aa 4), .ref (aa 5), .ref (aa 6), .ref (aa 7), .int (gI S 3), .ref (aa 8), .ref (aa 9), .ref (aa 10), .int (gI S 4), .ref (aa 11), .ref (aa 12), .ref (aa 13), .int (gI S 5), .ref (aa 14), .ref (aa 15), .int (gI S 6), .long (gL S 0), .int (gI S 7), .int (gI S 8), .long (gL S 1), .int (gI S 9), .int (gI S 10), .int (gI S 11), .ref (aa 16), .int (gI S 12), .ref (aa 17), .int (gI S 13), .ref (aa 18), .ref (aa 19), .ref (aa 20), .ref (aa 21), .ref (aa 22), .ref (aa 23), .int (gI S 14), .ref (aa 24), .int (gI S 15), .int (gI S 16), .ref (aa 25), .ref (aa 26), .ref (aa 27), .int (gI S 17), .int (gI S 18), .int (gI S 19), .int (gI S 20), .int (gI S 21), .int (gI S 22), .int (gI S 23), .ref (aa 28), .int (gI S 24)].set 43 (.int v))) = mW cI cZ cJ ao aa (sI S 16 v) := rfl
set_option maxRecDepth 100000 in
theorem ms_0_isAnswered {cI cZ cJ : ClassId} {ao aa : Nat → Nat} {S : St} {v : Int32} : (mW cI cZ cJ ao aa S).set 0 (ao 0, .inr (10, [.int (gI S 0), .int (gI S 1), .ref (aa 0), .ref (aa 1), .int (gI S 2), .ref (aa 2), .ref (aa 3), .ref (aa 4), .ref (aa 5), .ref (aa 6), .ref (aa 7), .int (gI S 3), .ref (aa 8), .ref (aa 9), .ref (aa 10), .int (gI S 4), .ref (aa 11), .ref (aa 12), .ref (aa 13), .int (gI S 5), .ref (aa 14), .ref (aa 15), .int (gI S 6), .long (gL S 0), .int (gI S 7), .int (gI S 8), .long (gL S 1), .int (gI S 9), .int (gI S 10), .int (gI S 11), .ref (aa 16), .int (gI S 12), .ref (aa 17), .int (gI S 13), .ref (aa 18), .ref (aa 19), .ref (aa 20), .ref (aa 21), .ref (aa 22), .ref (aa 23), .int (gI S 14), .ref (aa 24), .int (gI S 15), .int (gI S 16), .ref (aa 25), .ref (aa 26), .ref (aa 27), .int (gI S 17), .int (gI S 18), .int (gI S 19), .int (gI S 20), .int (gI S 21), .int (gI S 22), .int (gI S 23), .ref (aa 28), .int (gI S 24)].set 47 (.int v))) = mW cI cZ cJ ao aa (sI S 17 v) := rfl
set_option maxRecDepth 100000 in
theorem ms_0_lastError {cI cZ cJ : ClassId} {ao aa : Nat → Nat} {S : St} {v : Int32} : (mW cI cZ cJ ao aa S).set 0 (ao 0, .inr (10, [.int (gI S 0), .int (gI S 1), .ref (aa 0), .ref (aa 1), .int (gI S 2), .ref (aa 2), .ref (aa 3), .ref (aa 4), .ref (aa 5), .ref (aa 6), .ref (aa 7), .int (gI S 3), .ref (aa 8), .ref (aa 9), .ref (aa 10), .int (gI S 4), .ref (aa 11), .ref (aa 12), .ref (aa 13), .int (gI S 5), .ref (aa 14), .ref (aa 15), .int (gI S 6), .long (gL S 0), .int (gI S 7), .int (gI S 8), .long (gL S 1), .int (gI S 9), .int (gI S 10), .int (gI S 11), .ref (aa 16), .int (gI S 12), .ref (aa 17), .int (gI S 13), .ref (aa 18), .ref (aa 19), .ref (aa 20), .ref (aa 21), .ref (aa 22), .ref (aa 23), .int (gI S 14), .ref (aa 24), .int (gI S 15), .int (gI S 16), .ref (aa 25), .ref (aa 26), .ref (aa 27), .int (gI S 17), .int (gI S 18), .int (gI S 19), .int (gI S 20), .int (gI S 21), .int (gI S 22), .int (gI S 23), .ref (aa 28), .int (gI S 24)].set 48 (.int v))) = mW cI cZ cJ ao aa (sI S 18 v) := rfl
set_option maxRecDepth 100000 in
theorem ms_0_errorPlace {cI cZ cJ : ClassId} {ao aa : Nat → Nat} {S : St} {v : Int32} : (mW cI cZ cJ ao aa S).set 0 (ao 0, .inr (10, [.int (gI S 0), .int (gI S 1), .ref (aa 0), .ref (aa 1), .int (gI S 2), .ref (aa 2), .ref (aa 3), .ref (aa 4), .ref (aa 5), .ref (aa 6), .ref (aa 7), .int (gI S 3), .ref (aa 8), .ref (aa 9), .ref (aa 10), .int (gI S 4), .ref (aa 11), .ref (aa 12), .ref (aa 13), .int (gI S 5), .ref (aa 14), .ref (aa 15), .int (gI S 6), .long (gL S 0), .int (gI S 7), .int (gI S 8), .long (gL S 1), .int (gI S 9), .int (gI S 10), .int (gI S 11), .ref (aa 16), .int (gI S 12), .ref (aa 17), .int (gI S 13), .ref (aa 18), .ref (aa 19), .ref (aa 20), .ref (aa 21), .ref (aa 22), .ref (aa 23), .int (gI S 14), .ref (aa 24), .int (gI S 15), .int (gI S 16), .ref (aa 25), .ref (aa 26), .ref (aa 27), .int (gI S 17), .int (gI S 18), .int (gI S 19), .int (gI S 20), .int (gI S 21), .int (gI S 22), .int (gI S 23), .ref (aa 28), .int (gI S 24)].set 49 (.int v))) = mW cI cZ cJ ao aa (sI S 19 v) := rfl
set_option maxRecDepth 100000 in
theorem ms_0_errorLine {cI cZ cJ : ClassId} {ao aa : Nat → Nat} {S : St} {v : Int32} : (mW cI cZ cJ ao aa S).set 0 (ao 0, .inr (10, [.int (gI S 0), .int (gI S 1), .ref (aa 0), .ref (aa 1), .int (gI S 2), .ref (aa 2), .ref (aa 3), .ref (aa 4), .ref (aa 5), .ref (aa 6), .ref (aa 7), .int (gI S 3), .ref (aa 8), .ref (aa 9), .ref (aa 10), .int (gI S 4), .ref (aa 11), .ref (aa 12), .ref (aa 13), .int (gI S 5), .ref (aa 14), .ref (aa 15), .int (gI S 6), .long (gL S 0), .int (gI S 7), .int (gI S 8), .long (gL S 1), .int (gI S 9), .int (gI S 10), .int (gI S 11), .ref (aa 16), .int (gI S 12), .ref (aa 17), .int (gI S 13), .ref (aa 18), .ref (aa 19), .ref (aa 20), .ref (aa 21), .ref (aa 22), .ref (aa 23), .int (gI S 14), .ref (aa 24), .int (gI S 15), .int (gI S 16), .ref (aa 25), .ref (aa 26), .ref (aa 27), .int (gI S 17), .int (gI S 18), .int (gI S 19), .int (gI S 20), .int (gI S 21), .int (gI S 22), .int (gI S 23), .ref (aa 28), .int (gI S 24)].set 50 (.int v))) = mW cI cZ cJ ao aa (sI S 20 v) := rfl
set_option maxRecDepth 100000 in
theorem ms_0_askedKind {cI cZ cJ : ClassId} {ao aa : Nat → Nat} {S : St} {v : Int32} : (mW cI cZ cJ ao aa S).set 0 (ao 0, .inr (10, [.int (gI S 0), .int (gI S 1), .ref (aa 0), .ref (aa 1), .int (gI S 2), .ref (aa 2), .ref (aa 3), .ref (aa 4), .ref (aa 5), .ref (aa 6), .ref (aa 7), .int (gI S 3), .ref (aa 8), .ref (aa 9), .ref (aa 10), .int (gI S 4), .ref (aa 11), .ref (aa 12), .ref (aa 13), .int (gI S 5), .ref (aa 14), .ref (aa 15), .int (gI S 6), .long (gL S 0), .int (gI S 7), .int (gI S 8), .long (gL S 1), .int (gI S 9), .int (gI S 10), .int (gI S 11), .ref (aa 16), .int (gI S 12), .ref (aa 17), .int (gI S 13), .ref (aa 18), .ref (aa 19), .ref (aa 20), .ref (aa 21), .ref (aa 22), .ref (aa 23), .int (gI S 14), .ref (aa 24), .int (gI S 15), .int (gI S 16), .ref (aa 25), .ref (aa 26), .ref (aa 27), .int (gI S 17), .int (gI S 18), .int (gI S 19), .int (gI S 20), .int (gI S 21), .int (gI S 22), .int (gI S 23), .ref (aa 28), .int (gI S 24)].set 51 (.int v))) = mW cI cZ cJ ao aa (sI S 21 v) := rfl
set_option maxRecDepth 100000 in
theorem ms_0_hasAction {cI cZ cJ : ClassId} {ao aa : Nat → Nat} {S : St} {v : Int32} : (mW cI cZ cJ ao aa S).set 0 (ao 0, .inr (10, [.int (gI S 0), .int (gI S 1), .ref (aa 0), .ref (aa 1), .int (gI S 2), .ref (aa 2), .ref (aa 3), .ref (aa 4), .ref (aa 5), .ref (aa 6), .ref (aa 7), .int (gI S 3), .ref (aa 8), .ref (aa 9), .ref (aa 10), .int (gI S 4), .ref (aa 11), .ref (aa 12), .ref (aa 13), .int (gI S 5), .ref (aa 14), .ref (aa 15), .int (gI S 6), .long (gL S 0), .int (gI S 7), .int (gI S 8), .long (gL S 1), .int (gI S 9), .int (gI S 10), .int (gI S 11), .ref (aa 16), .int (gI S 12), .ref (aa 17), .int (gI S 13), .ref (aa 18), .ref (aa 19), .ref (aa 20), .ref (aa 21), .ref (aa 22), .ref (aa 23), .int (gI S 14), .ref (aa 24), .int (gI S 15), .int (gI S 16), .ref (aa 25), .ref (aa 26), .ref (aa 27), .int (gI S 17), .int (gI S 18), .int (gI S 19), .int (gI S 20), .int (gI S 21), .int (gI S 22), .int (gI S 23), .ref (aa 28), .int (gI S 24)].set 52 (.int v))) = mW cI cZ cJ ao aa (sI S 22 v) := rfl
set_option maxRecDepth 100000 in
theorem ms_0_againMany {cI cZ cJ : ClassId} {ao aa : Nat → Nat} {S : St} {v : Int32} : (mW cI cZ cJ ao aa S).set 0 (ao 0, .inr (10, [.int (gI S 0), .int (gI S 1), .ref (aa 0), .ref (aa 1), .int (gI S 2), .ref (aa 2), .ref (aa 3), .ref (aa 4), .ref (aa 5), .ref (aa 6), .ref (aa 7), .int (gI S 3), .ref (aa 8), .ref (aa 9), .ref (aa 10), .int (gI S 4), .ref (aa 11), .ref (aa 12), .ref (aa 13), .int (gI S 5), .ref (aa 14), .ref (aa 15), .int (gI S 6), .long (gL S 0), .int (gI S 7), .int (gI S 8), .long (gL S 1), .int (gI S 9), .int (gI S 10), .int (gI S 11), .ref (aa 16), .int (gI S 12), .ref (aa 17), .int (gI S 13), .ref (aa 18), .ref (aa 19), .ref (aa 20), .ref (aa 21), .ref (aa 22), .ref (aa 23), .int (gI S 14), .ref (aa 24), .int (gI S 15), .int (gI S 16), .ref (aa 25), .ref (aa 26), .ref (aa 27), .int (gI S 17), .int (gI S 18), .int (gI S 19), .int (gI S 20), .int (gI S 21), .int (gI S 22), .int (gI S 23), .ref (aa 28), .int (gI S 24)].set 53 (.int v))) = mW cI cZ cJ ao aa (sI S 23 v) := rfl
set_option maxRecDepth 100000 in
theorem ms_0_againTo {cI cZ cJ : ClassId} {ao aa : Nat → Nat} {S : St} {v : Int32} : (mW cI cZ cJ ao aa S).set 0 (ao 0, .inr (10, [.int (gI S 0), .int (gI S 1), .ref (aa 0), .ref (aa 1), .int (gI S 2), .ref (aa 2), .ref (aa 3), .ref (aa 4), .ref (aa 5), .ref (aa 6), .ref (aa 7), .int (gI S 3), .ref (aa 8), .ref (aa 9), .ref (aa 10), .int (gI S 4), .ref (aa 11), .ref (aa 12), .ref (aa 13), .int (gI S 5), .ref (aa 14), .ref (aa 15), .int (gI S 6), .long (gL S 0), .int (gI S 7), .int (gI S 8), .long (gL S 1), .int (gI S 9), .int (gI S 10), .int (gI S 11), .ref (aa 16), .int (gI S 12), .ref (aa 17), .int (gI S 13), .ref (aa 18), .ref (aa 19), .ref (aa 20), .ref (aa 21), .ref (aa 22), .ref (aa 23), .int (gI S 14), .ref (aa 24), .int (gI S 15), .int (gI S 16), .ref (aa 25), .ref (aa 26), .ref (aa 27), .int (gI S 17), .int (gI S 18), .int (gI S 19), .int (gI S 20), .int (gI S 21), .int (gI S 22), .int (gI S 23), .ref (aa 28), .int (gI S 24)].set 55 (.int v))) = mW cI cZ cJ ao aa (sI S 24 v) := rfl
theorem ma_0 {cI cZ cJ : ClassId} {ao aa : Nat → Nat} {S : St} : (mW cI cZ cJ ao aa S)[1]? = some (aa 0, .inl (cI, 60, .inl (gA S 0))) := rfl
set_option maxRecDepth 100000 in
theorem mt_0 {cI cZ cJ : ClassId} {ao aa : Nat → Nat} {S : St} {i : Nat} {v : Int32} : (mW cI cZ cJ ao aa S).set 1 (aa 0, .inl (cI, 60, .inl (upd (gA S 0) i v))) = mW cI cZ cJ ao aa (sA S 0 i v) := rfl
theorem ma_1 {cI cZ cJ : ClassId} {ao aa : Nat → Nat} {S : St} : (mW cI cZ cJ ao aa S)[2]? = some (aa 1, .inl (cI, 60, .inl (gA S 1))) := rfl
set_option maxRecDepth 100000 in
theorem mt_1 {cI cZ cJ : ClassId} {ao aa : Nat → Nat} {S : St} {i : Nat} {v : Int32} : (mW cI cZ cJ ao aa S).set 2 (aa 1, .inl (cI, 60, .inl (upd (gA S 1) i v))) = mW cI cZ cJ ao aa (sA S 1 i v) := rfl
theorem ma_2 {cI cZ cJ : ClassId} {ao aa : Nat → Nat} {S : St} : (mW cI cZ cJ ao aa S)[3]? = some (aa 2, .inl (cI, 60, .inl (gA S 2))) := rfl
set_option maxRecDepth 100000 in
theorem mt_2 {cI cZ cJ : ClassId} {ao aa : Nat → Nat} {S : St} {i : Nat} {v : Int32} : (mW cI cZ cJ ao aa S).set 3 (aa 2, .inl (cI, 60, .inl (upd (gA S 2) i v))) = mW cI cZ cJ ao aa (sA S 2 i v) := rfl
theorem ma_3 {cI cZ cJ : ClassId} {ao aa : Nat → Nat} {S : St} : (mW cI cZ cJ ao aa S)[4]? = some (aa 3, .inl (cI, 60, .inl (gA S 3))) := rfl
set_option maxRecDepth 100000 in
theorem mt_3 {cI cZ cJ : ClassId} {ao aa : Nat → Nat} {S : St} {i : Nat} {v : Int32} : (mW cI cZ cJ ao aa S).set 4 (aa 3, .inl (cI, 60, .inl (upd (gA S 3) i v))) = mW cI cZ cJ ao aa (sA S 3 i v) := rfl
theorem ma_4 {cI cZ cJ : ClassId} {ao aa : Nat → Nat} {S : St} : (mW cI cZ cJ ao aa S)[5]? = some (aa 4, .inl (cZ, 60, .inl (gA S 4))) := rfl
set_option maxRecDepth 100000 in
theorem mt_4 {cI cZ cJ : ClassId} {ao aa : Nat → Nat} {S : St} {i : Nat} {v : Int32} : (mW cI cZ cJ ao aa S).set 5 (aa 4, .inl (cZ, 60, .inl (upd (gA S 4) i v))) = mW cI cZ cJ ao aa (sA S 4 i v) := rfl
theorem ma_5 {cI cZ cJ : ClassId} {ao aa : Nat → Nat} {S : St} : (mW cI cZ cJ ao aa S)[6]? = some (aa 5, .inl (cI, 60, .inl (gA S 5))) := rfl
set_option maxRecDepth 100000 in
theorem mt_5 {cI cZ cJ : ClassId} {ao aa : Nat → Nat} {S : St} {i : Nat} {v : Int32} : (mW cI cZ cJ ao aa S).set 6 (aa 5, .inl (cI, 60, .inl (upd (gA S 5) i v))) = mW cI cZ cJ ao aa (sA S 5 i v) := rfl
theorem ma_6 {cI cZ cJ : ClassId} {ao aa : Nat → Nat} {S : St} : (mW cI cZ cJ ao aa S)[7]? = some (aa 6, .inl (cI, 480, .inl (gA S 6))) := rfl
set_option maxRecDepth 100000 in
theorem mt_6 {cI cZ cJ : ClassId} {ao aa : Nat → Nat} {S : St} {i : Nat} {v : Int32} : (mW cI cZ cJ ao aa S).set 7 (aa 6, .inl (cI, 480, .inl (upd (gA S 6) i v))) = mW cI cZ cJ ao aa (sA S 6 i v) := rfl
theorem ma_7 {cI cZ cJ : ClassId} {ao aa : Nat → Nat} {S : St} : (mW cI cZ cJ ao aa S)[8]? = some (aa 7, .inl (cI, 480, .inl (gA S 7))) := rfl
set_option maxRecDepth 100000 in
theorem mt_7 {cI cZ cJ : ClassId} {ao aa : Nat → Nat} {S : St} {i : Nat} {v : Int32} : (mW cI cZ cJ ao aa S).set 8 (aa 7, .inl (cI, 480, .inl (upd (gA S 7) i v))) = mW cI cZ cJ ao aa (sA S 7 i v) := rfl
theorem ma_8 {cI cZ cJ : ClassId} {ao aa : Nat → Nat} {S : St} : (mW cI cZ cJ ao aa S)[9]? = some (aa 8, .inl (cI, 40, .inl (gA S 8))) := rfl
set_option maxRecDepth 100000 in
theorem mt_8 {cI cZ cJ : ClassId} {ao aa : Nat → Nat} {S : St} {i : Nat} {v : Int32} : (mW cI cZ cJ ao aa S).set 9 (aa 8, .inl (cI, 40, .inl (upd (gA S 8) i v))) = mW cI cZ cJ ao aa (sA S 8 i v) := rfl
theorem ma_9 {cI cZ cJ : ClassId} {ao aa : Nat → Nat} {S : St} : (mW cI cZ cJ ao aa S)[10]? = some (aa 9, .inl (cI, 40, .inl (gA S 9))) := rfl
set_option maxRecDepth 100000 in
theorem mt_9 {cI cZ cJ : ClassId} {ao aa : Nat → Nat} {S : St} {i : Nat} {v : Int32} : (mW cI cZ cJ ao aa S).set 10 (aa 9, .inl (cI, 40, .inl (upd (gA S 9) i v))) = mW cI cZ cJ ao aa (sA S 9 i v) := rfl
theorem ma_10 {cI cZ cJ : ClassId} {ao aa : Nat → Nat} {S : St} : (mW cI cZ cJ ao aa S)[11]? = some (aa 10, .inl (cI, 160, .inl (gA S 10))) := rfl
set_option maxRecDepth 100000 in
theorem mt_10 {cI cZ cJ : ClassId} {ao aa : Nat → Nat} {S : St} {i : Nat} {v : Int32} : (mW cI cZ cJ ao aa S).set 11 (aa 10, .inl (cI, 160, .inl (upd (gA S 10) i v))) = mW cI cZ cJ ao aa (sA S 10 i v) := rfl
theorem ma_11 {cI cZ cJ : ClassId} {ao aa : Nat → Nat} {S : St} : (mW cI cZ cJ ao aa S)[12]? = some (aa 11, .inl (cI, 40, .inl (gA S 11))) := rfl
set_option maxRecDepth 100000 in
theorem mt_11 {cI cZ cJ : ClassId} {ao aa : Nat → Nat} {S : St} {i : Nat} {v : Int32} : (mW cI cZ cJ ao aa S).set 12 (aa 11, .inl (cI, 40, .inl (upd (gA S 11) i v))) = mW cI cZ cJ ao aa (sA S 11 i v) := rfl
theorem ma_12 {cI cZ cJ : ClassId} {ao aa : Nat → Nat} {S : St} : (mW cI cZ cJ ao aa S)[13]? = some (aa 12, .inl (cI, 40, .inl (gA S 12))) := rfl
set_option maxRecDepth 100000 in
theorem mt_12 {cI cZ cJ : ClassId} {ao aa : Nat → Nat} {S : St} {i : Nat} {v : Int32} : (mW cI cZ cJ ao aa S).set 13 (aa 12, .inl (cI, 40, .inl (upd (gA S 12) i v))) = mW cI cZ cJ ao aa (sA S 12 i v) := rfl
theorem ma_13 {cI cZ cJ : ClassId} {ao aa : Nat → Nat} {S : St} : (mW cI cZ cJ ao aa S)[14]? = some (aa 13, .inl (cI, 40, .inl (gA S 13))) := rfl
set_option maxRecDepth 100000 in
theorem mt_13 {cI cZ cJ : ClassId} {ao aa : Nat → Nat} {S : St} {i : Nat} {v : Int32} : (mW cI cZ cJ ao aa S).set 14 (aa 13, .inl (cI, 40, .inl (upd (gA S 13) i v))) = mW cI cZ cJ ao aa (sA S 13 i v) := rfl
theorem ma_14 {cI cZ cJ : ClassId} {ao aa : Nat → Nat} {S : St} : (mW cI cZ cJ ao aa S)[15]? = some (aa 14, .inl (cI, 60, .inl (gA S 14))) := rfl
set_option maxRecDepth 100000 in
theorem mt_14 {cI cZ cJ : ClassId} {ao aa : Nat → Nat} {S : St} {i : Nat} {v : Int32} : (mW cI cZ cJ ao aa S).set 15 (aa 14, .inl (cI, 60, .inl (upd (gA S 14) i v))) = mW cI cZ cJ ao aa (sA S 14 i v) := rfl
theorem ma_15 {cI cZ cJ : ClassId} {ao aa : Nat → Nat} {S : St} : (mW cI cZ cJ ao aa S)[16]? = some (aa 15, .inl (cI, 60, .inl (gA S 15))) := rfl
set_option maxRecDepth 100000 in
theorem mt_15 {cI cZ cJ : ClassId} {ao aa : Nat → Nat} {S : St} {i : Nat} {v : Int32} : (mW cI cZ cJ ao aa S).set 16 (aa 15, .inl (cI, 60, .inl (upd (gA S 15) i v))) = mW cI cZ cJ ao aa (sA S 15 i v) := rfl
theorem ma_16 {cI cZ cJ : ClassId} {ao aa : Nat → Nat} {S : St} : (mW cI cZ cJ ao aa S)[17]? = some (aa 16, .inl (cI, 8, .inl (gA S 16))) := rfl
set_option maxRecDepth 100000 in
theorem mt_16 {cI cZ cJ : ClassId} {ao aa : Nat → Nat} {S : St} {i : Nat} {v : Int32} : (mW cI cZ cJ ao aa S).set 17 (aa 16, .inl (cI, 8, .inl (upd (gA S 16) i v))) = mW cI cZ cJ ao aa (sA S 16 i v) := rfl
theorem ma_17 {cI cZ cJ : ClassId} {ao aa : Nat → Nat} {S : St} : (mW cI cZ cJ ao aa S)[18]? = some (aa 17, .inl (cI, 8, .inl (gA S 17))) := rfl
set_option maxRecDepth 100000 in
theorem mt_17 {cI cZ cJ : ClassId} {ao aa : Nat → Nat} {S : St} {i : Nat} {v : Int32} : (mW cI cZ cJ ao aa S).set 18 (aa 17, .inl (cI, 8, .inl (upd (gA S 17) i v))) = mW cI cZ cJ ao aa (sA S 17 i v) := rfl
theorem ma_18 {cI cZ cJ : ClassId} {ao aa : Nat → Nat} {S : St} : (mW cI cZ cJ ao aa S)[19]? = some (aa 18, .inl (cI, 2, .inl (gA S 18))) := rfl
set_option maxRecDepth 100000 in
theorem mt_18 {cI cZ cJ : ClassId} {ao aa : Nat → Nat} {S : St} {i : Nat} {v : Int32} : (mW cI cZ cJ ao aa S).set 19 (aa 18, .inl (cI, 2, .inl (upd (gA S 18) i v))) = mW cI cZ cJ ao aa (sA S 18 i v) := rfl
theorem ma_19 {cI cZ cJ : ClassId} {ao aa : Nat → Nat} {S : St} : (mW cI cZ cJ ao aa S)[20]? = some (aa 19, .inl (cI, 2, .inl (gA S 19))) := rfl
set_option maxRecDepth 100000 in
theorem mt_19 {cI cZ cJ : ClassId} {ao aa : Nat → Nat} {S : St} {i : Nat} {v : Int32} : (mW cI cZ cJ ao aa S).set 20 (aa 19, .inl (cI, 2, .inl (upd (gA S 19) i v))) = mW cI cZ cJ ao aa (sA S 19 i v) := rfl
theorem ma_20 {cI cZ cJ : ClassId} {ao aa : Nat → Nat} {S : St} : (mW cI cZ cJ ao aa S)[21]? = some (aa 20, .inl (cJ, 2, .inr (.inl (gB S 20)))) := rfl
set_option maxRecDepth 100000 in
theorem mt_20 {cI cZ cJ : ClassId} {ao aa : Nat → Nat} {S : St} {i : Nat} {v : Int64} : (mW cI cZ cJ ao aa S).set 21 (aa 20, .inl (cJ, 2, .inr (.inl (vp_updL (gB S 20) i v)))) = mW cI cZ cJ ao aa (sB S 20 i v) := rfl
theorem ma_21 {cI cZ cJ : ClassId} {ao aa : Nat → Nat} {S : St} : (mW cI cZ cJ ao aa S)[22]? = some (aa 21, .inl (cI, 2, .inl (gA S 21))) := rfl
set_option maxRecDepth 100000 in
theorem mt_21 {cI cZ cJ : ClassId} {ao aa : Nat → Nat} {S : St} {i : Nat} {v : Int32} : (mW cI cZ cJ ao aa S).set 22 (aa 21, .inl (cI, 2, .inl (upd (gA S 21) i v))) = mW cI cZ cJ ao aa (sA S 21 i v) := rfl
theorem ma_22 {cI cZ cJ : ClassId} {ao aa : Nat → Nat} {S : St} : (mW cI cZ cJ ao aa S)[23]? = some (aa 22, .inl (cI, 2, .inl (gA S 22))) := rfl
set_option maxRecDepth 100000 in
theorem mt_22 {cI cZ cJ : ClassId} {ao aa : Nat → Nat} {S : St} {i : Nat} {v : Int32} : (mW cI cZ cJ ao aa S).set 23 (aa 22, .inl (cI, 2, .inl (upd (gA S 22) i v))) = mW cI cZ cJ ao aa (sA S 22 i v) := rfl
theorem ma_23 {cI cZ cJ : ClassId} {ao aa : Nat → Nat} {S : St} : (mW cI cZ cJ ao aa S)[24]? = some (aa 23, .inl (cI, 2, .inl (gA S 23))) := rfl
set_option maxRecDepth 100000 in
theorem mt_23 {cI cZ cJ : ClassId} {ao aa : Nat → Nat} {S : St} {i : Nat} {v : Int32} : (mW cI cZ cJ ao aa S).set 24 (aa 23, .inl (cI, 2, .inl (upd (gA S 23) i v))) = mW cI cZ cJ ao aa (sA S 23 i v) := rfl
theorem ma_24 {cI cZ cJ : ClassId} {ao aa : Nat → Nat} {S : St} : (mW cI cZ cJ ao aa S)[25]? = some (aa 24, .inl (cI, 60, .inl (gA S 24))) := rfl
set_option maxRecDepth 100000 in
theorem mt_24 {cI cZ cJ : ClassId} {ao aa : Nat → Nat} {S : St} {i : Nat} {v : Int32} : (mW cI cZ cJ ao aa S).set 25 (aa 24, .inl (cI, 60, .inl (upd (gA S 24) i v))) = mW cI cZ cJ ao aa (sA S 24 i v) := rfl
theorem ma_25 {cI cZ cJ : ClassId} {ao aa : Nat → Nat} {S : St} : (mW cI cZ cJ ao aa S)[26]? = some (aa 25, .inl (cI, 60, .inl (gA S 25))) := rfl
set_option maxRecDepth 100000 in
theorem mt_25 {cI cZ cJ : ClassId} {ao aa : Nat → Nat} {S : St} {i : Nat} {v : Int32} : (mW cI cZ cJ ao aa S).set 26 (aa 25, .inl (cI, 60, .inl (upd (gA S 25) i v))) = mW cI cZ cJ ao aa (sA S 25 i v) := rfl
theorem ma_26 {cI cZ cJ : ClassId} {ao aa : Nat → Nat} {S : St} : (mW cI cZ cJ ao aa S)[27]? = some (aa 26, .inl (cI, 60, .inl (gA S 26))) := rfl
set_option maxRecDepth 100000 in
theorem mt_26 {cI cZ cJ : ClassId} {ao aa : Nat → Nat} {S : St} {i : Nat} {v : Int32} : (mW cI cZ cJ ao aa S).set 27 (aa 26, .inl (cI, 60, .inl (upd (gA S 26) i v))) = mW cI cZ cJ ao aa (sA S 26 i v) := rfl
theorem ma_27 {cI cZ cJ : ClassId} {ao aa : Nat → Nat} {S : St} : (mW cI cZ cJ ao aa S)[28]? = some (aa 27, .inl (cI, 60, .inl (gA S 27))) := rfl
set_option maxRecDepth 100000 in
theorem mt_27 {cI cZ cJ : ClassId} {ao aa : Nat → Nat} {S : St} {i : Nat} {v : Int32} : (mW cI cZ cJ ao aa S).set 28 (aa 27, .inl (cI, 60, .inl (upd (gA S 27) i v))) = mW cI cZ cJ ao aa (sA S 27 i v) := rfl
theorem ma_28 {cI cZ cJ : ClassId} {ao aa : Nat → Nat} {S : St} : (mW cI cZ cJ ao aa S)[29]? = some (aa 28, .inl (cI, 60, .inl (gA S 28))) := rfl
set_option maxRecDepth 100000 in
theorem mt_28 {cI cZ cJ : ClassId} {ao aa : Nat → Nat} {S : St} {i : Nat} {v : Int32} : (mW cI cZ cJ ao aa S).set 29 (aa 28, .inl (cI, 60, .inl (upd (gA S 28) i v))) = mW cI cZ cJ ao aa (sA S 28 i v) := rfl
end
section
section
variable {p : Program} {l : Launch} {e : Env} {s : State} {m : MethodId} {args : Array Value} {below : List Frame} {meth : Method} {c : Code} {D : va_G} {cI cZ cJ : ClassId} {ao aa : Nat → Nat}
def x_G_isPlainWord (S : St) (x0 : Int32) : Option (Int32 × St) :=
  if x0 < (10 : Int32) then
    some ((0 : Int32), S)
  else
    if (9999 : Int32) < x0 then
      some ((0 : Int32), S)
    else
      some ((1 : Int32), S)
def rm_x_G_isPlainWord : Room := { frames := 0, cells := 0, slots := 0, locals := 0 }
theorem ok_x_G_isPlainWord : CalS y_G_isPlainWord b_G_isPlainWord 1 (some .boolean) 1 rm_x_G_isPlainWord := ⟨kc_G_isPlainWord, ks_G_isPlainWord, ji_G, ⟨by decide, by decide, by decide +kernel⟩, rfl, rfl⟩
set_option maxHeartbeats 4000000 in
set_option maxRecDepth 100000 in
theorem w_x_G_isPlainWord {z : Int32 × St} (X : Cx b_G_isPlainWord 1 (some .boolean) R_G D [(cI, .int), (cZ, .boolean), (cJ, .long)] (xA ao aa) (xW cI cZ cJ ao aa) p s m args meth c) (S : St) (x0 : Int32) (hf : x_G_isPlainWord S x0 = some z) : WX rm_x_G_isPlainWord D (xA ao aa) (xW cI cZ cJ ao aa) p l e s m args below meth c (some (.int z.1)) z.2 0 [] 1 [(0, .int x0)] S := by
  intro H locs ls hP hS hl
  obtain ⟨hx, hb, hr0, hml, hown, htg, hlk, hK, hN, hI⟩ := id X
  unfold x_G_isPlainWord at hf
  refine lv_iload_n hx hb d_G_isPlainWord_0 rfl (lv_at hl 0 rfl) ?_
  refine lv_bipush (v := 10) hx hb d_G_isPlainWord_1 (by decide) ?_
  refine lv_icmp_lt (tgt := 17) hx hb d_G_isPlainWord_3 (by decide) (fun c => ?_) (fun c => ?_)
  · have hf := if_t hf c
    refine lv_iconst (v := 0) hx hb d_G_isPlainWord_17 (by decide) ?_
    obtain rfl := Option.some.inj hf
    exact W.zret (ty := .boolean) hx hb hr0 rfl (fun t ht _ => ⟨⟨rfl, by rw [ht]; exact hP⟩, hS.F ht⟩) hS.2.2 d_G_isPlainWord_18 hlk
  · have hf := if_f hf c
    refine lv_iload_n hx hb d_G_isPlainWord_6 rfl (lv_at hl 0 rfl) ?_
    refine lv_sipush (v := 9999) hx hb d_G_isPlainWord_7 (by decide) ?_
    refine lv_icmp_gt (tgt := 17) hx hb d_G_isPlainWord_10 (by decide) (fun c => ?_) (fun c => ?_)
    · have hf := if_t hf c
      refine lv_iconst (v := 0) hx hb d_G_isPlainWord_17 (by decide) ?_
      obtain rfl := Option.some.inj hf
      exact W.zret (ty := .boolean) hx hb hr0 rfl (fun t ht _ => ⟨⟨rfl, by rw [ht]; exact hP⟩, hS.F ht⟩) hS.2.2 d_G_isPlainWord_18 hlk
    · have hf := if_f hf c
      refine lv_iconst (v := 1) hx hb d_G_isPlainWord_13 (by decide) ?_
      refine lv_goto (tgt := 18) hx hb d_G_isPlainWord_14 (by decide) ?_
      obtain rfl := Option.some.inj hf
      exact W.zret (ty := .boolean) hx hb hr0 rfl (fun t ht _ => ⟨⟨rfl, by rw [ht]; exact hP⟩, hS.F ht⟩) hS.2.2 d_G_isPlainWord_18 hlk
theorem c_x_G_isPlainWord {l : Launch} {D : va_G} {cI cZ cJ : ClassId} {ao aa : Nat → Nat} {S : St} {x0 : Int32} {z : Int32 × St} (hz : x_G_isPlainWord S x0 = some z) : Ct l y_G_isPlainWord (.code y_G_isPlainWord b_G_isPlainWord 1 (some .boolean) :: gw) rm_x_G_isPlainWord D [(cI, .int), (cZ, .boolean), (cJ, .long)] (xA ao aa) (xW cI cZ cJ ao aa) [.int x0] S (some (.int z.1)) z.2 :=
  Ct_of (by decide) (fun p e s m args below meth c X => w_x_G_isPlainWord X _ _ hz) (Nat.le_of_ble_eq_true rfl)
def x_Row_size (r : Nat) (S : St) : Option (Int32 × St) :=
  some ((gI S r), S)
def rm_x_Row_size : Room := { frames := 0, cells := 0, slots := 0, locals := 0 }
theorem ok_x_Row_size : CalV y_Row_size b_Row_size 1 (some .int) 0 rm_x_Row_size := ⟨kc_Row_size, ki_Row_size, kl_Row_size, ji_Row, ⟨by decide, by decide, by decide +kernel⟩, rfl, rfl⟩
set_option maxHeartbeats 4000000 in
set_option maxRecDepth 100000 in
theorem w_x_Row_size {r : Nat} (hr : r < 17) {z : Int32 × St} (X : Cx b_Row_size 1 (some .int) R_Row D [(cI, .int), (cZ, .boolean), (cJ, .long)] (xA ao aa) (xW cI cZ cJ ao aa) p s m args meth c) (S : St) (hf : x_Row_size r S = some z) : WX rm_x_Row_size D (xA ao aa) (xW cI cZ cJ ao aa) p l e s m args below meth c (some (.int z.1)) z.2 0 [] 1 [(0, .ref (ao r))] S := by
  intro H locs ls hP hS hl
  obtain ⟨hx, hb, hr0, hml, hown, htg, hlk, hK, hN, hI⟩ := id X
  unfold x_Row_size at hf
  refine lv_aload_n hx hb d_Row_size_0 rfl (lv_at hl 0 rfl) ?_
  refine va_get (D := D) (v := .int (gI S r)) hx hb htg in_Row hown hK hP r (xo_row hr) rfl 1 (by decide) (htg _ k_f_Row_21) (fun _ h9 => h9) rfl d_Row_size_1 ?_
  obtain rfl := Option.some.inj hf
  exact W.iret hx hb hr0 (fun t ht _ => ⟨⟨rfl, by rw [ht]; exact hP⟩, hS.F ht⟩) hS.2.2 d_Row_size_4 hlk
theorem c_x_Row_size {l : Launch} {D : va_G} {cI cZ cJ : ClassId} {ao aa : Nat → Nat} {r : Nat} (hr : r < 17) {S : St} {z : Int32 × St} (hz : x_Row_size r S = some z) : Ct l y_Row_size (.code y_Row_size b_Row_size 1 (some .int) :: gw) rm_x_Row_size D [(cI, .int), (cZ, .boolean), (cJ, .long)] (xA ao aa) (xW cI cZ cJ ao aa) [.ref (ao r)] S (some (.int z.1)) z.2 :=
  Ct_of (by decide) (fun p e s m args below meth c X => w_x_Row_size hr X _ hz) (Nat.le_of_ble_eq_true rfl)
def x_Row_at (r : Nat) (S : St) (x0 : Int32) : Option (Int32 × St) :=
  if x0 < 0 then
    some ((-1 : Int32), S)
  else
    if (gI S r) ≤ x0 then
      some ((-1 : Int32), S)
    else
      gd (vin x0 (xcap r)) <|
      some ((gA S r x0.toNatClampNeg), S)
def rm_x_Row_at : Room := { frames := 0, cells := 0, slots := 0, locals := 0 }
theorem ok_x_Row_at : CalV y_Row_at b_Row_at 2 (some .int) 1 rm_x_Row_at := ⟨kc_Row_at, ki_Row_at, kl_Row_at, ji_Row, ⟨by decide, by decide, by decide +kernel⟩, rfl, rfl⟩
set_option maxHeartbeats 4000000 in
set_option maxRecDepth 100000 in
theorem w_x_Row_at {r : Nat} (hr : r < 17) {z : Int32 × St} (X : Cx b_Row_at 2 (some .int) R_Row D [(cI, .int), (cZ, .boolean), (cJ, .long)] (xA ao aa) (xW cI cZ cJ ao aa) p s m args meth c) (S : St) (x0 : Int32) (hf : x_Row_at r S x0 = some z) : WX rm_x_Row_at D (xA ao aa) (xW cI cZ cJ ao aa) p l e s m args below meth c (some (.int z.1)) z.2 0 [] 2 [(0, .ref (ao r)), (1, .int x0)] S := by
  intro H locs ls hP hS hl
  obtain ⟨hx, hb, hr0, hml, hown, htg, hlk, hK, hN, hI⟩ := id X
  unfold x_Row_at at hf
  refine lv_iload_n hx hb d_Row_at_0 rfl (lv_at hl 1 rfl) ?_
  refine lv_if_lt (tgt := 21) hx hb d_Row_at_1 (by decide) (fun c => ?_) (fun c => ?_)
  · have hf := if_t hf c
    refine lv_iconst (v := (-1)) hx hb d_Row_at_21 (by decide) ?_
    obtain rfl := Option.some.inj hf
    exact W.iret hx hb hr0 (fun t ht _ => ⟨⟨rfl, by rw [ht]; exact hP⟩, hS.F ht⟩) hS.2.2 d_Row_at_22 hlk
  · have hf := if_f hf c
    refine lv_iload_n hx hb d_Row_at_4 rfl (lv_at hl 1 rfl) ?_
    refine lv_aload_n hx hb d_Row_at_5 rfl (lv_at hl 0 rfl) ?_
    refine va_get (D := D) (v := .int (gI S r)) hx hb htg in_Row hown hK hP r (xo_row hr) rfl 1 (by decide) (htg _ k_f_Row_21) (fun _ h9 => h9) rfl d_Row_at_6 ?_
    refine lv_icmp_ge (tgt := 21) hx hb d_Row_at_9 (by decide) (fun c => ?_) (fun c => ?_)
    · have hf := if_t hf c
      refine lv_iconst (v := (-1)) hx hb d_Row_at_21 (by decide) ?_
      obtain rfl := Option.some.inj hf
      exact W.iret hx hb hr0 (fun t ht _ => ⟨⟨rfl, by rw [ht]; exact hP⟩, hS.F ht⟩) hS.2.2 d_Row_at_22 hlk
    · have hf := if_f hf c
      refine lv_aload_n hx hb d_Row_at_12 rfl (lv_at hl 0 rfl) ?_
      refine va_get (D := D) (v := .ref (aa r)) hx hb htg in_Row hown hK hP r (xo_row hr) rfl 0 (by decide) (htg _ k_f_Row_15) (fun _ h9 => h9) rfl d_Row_at_13 ?_
      refine lv_iload_n hx hb d_Row_at_16 rfl (lv_at hl 1 rfl) ?_
      obtain ⟨hg, hf⟩ := gd_some hf
      refine va_iald hx hb hK hP (28 + r) 0 (xa_row hr) rfl (vin_in hg) d_Row_at_17 ?_
      refine lv_goto (tgt := 22) hx hb d_Row_at_18 (by decide) ?_
      obtain rfl := Option.some.inj hf
      exact W.iret hx hb hr0 (fun t ht _ => ⟨⟨rfl, by rw [ht]; exact hP⟩, hS.F ht⟩) hS.2.2 d_Row_at_22 hlk
theorem c_x_Row_at {l : Launch} {D : va_G} {cI cZ cJ : ClassId} {ao aa : Nat → Nat} {r : Nat} (hr : r < 17) {S : St} {x0 : Int32} {z : Int32 × St} (hz : x_Row_at r S x0 = some z) : Ct l y_Row_at (.code y_Row_at b_Row_at 2 (some .int) :: gw) rm_x_Row_at D [(cI, .int), (cZ, .boolean), (cJ, .long)] (xA ao aa) (xW cI cZ cJ ao aa) [.ref (ao r), .int x0] S (some (.int z.1)) z.2 :=
  Ct_of (by decide) (fun p e s m args below meth c X => w_x_Row_at hr X _ _ hz) (Nat.le_of_ble_eq_true rfl)
def x_Verbs_find_b2_f (k2 : St → Int32 → Int32 → Option (Int32 × St)) (S : St) (x1 : Int32) (x2 : Int32) : Option (Int32 × St) :=
  (x_Row_size 0 S).bind fun q1 =>
  if q1.1 ≤ x2 then
    some ((-1 : Int32), q1.2)
  else
    (x_Row_at 0 q1.2 x2).bind fun q2 =>
    if q2.1 = x1 then
      (x_Row_at 1 q2.2 x2).bind fun q3 =>
      some (q3.1, q3.2)
    else
      k2 q2.2 x1 (x2 + 1)
def x_Verbs_find_b2 : Nat → St → Int32 → Int32 → Option (Int32 × St)
  | 0, _, _, _ => none
  | n + 1, S, x1, x2 => x_Verbs_find_b2_f (x_Verbs_find_b2 n) S x1 x2
def x_Verbs_find (S : St) (x0 : Int32) : Option (Int32 × St) :=
  x_Verbs_find_b2 fu S x0 (0 : Int32)
def rm_x_Verbs_find : Room := { frames := 1, cells := 0, slots := 0, locals := 21 }
theorem ok_x_Verbs_find : CalV y_Verbs_find b_Verbs_find 3 (some .int) 1 rm_x_Verbs_find := ⟨kc_Verbs_find, ki_Verbs_find, kl_Verbs_find, ji_Verbs, ⟨by decide, by decide, by decide +kernel⟩, rfl, rfl⟩
set_option maxHeartbeats 4000000 in
set_option maxRecDepth 100000 in
theorem w_x_Verbs_find_b2_f {z : Int32 × St} (X : Cx b_Verbs_find 3 (some .int) R_Verbs D [(cI, .int), (cZ, .boolean), (cJ, .long)] (xA ao aa) (xW cI cZ cJ ao aa) p s m args meth c) {k2 : St → Int32 → Int32 → Option (Int32 × St)} (hk2 : ∀ (S : St) (x1 : Int32) (x2 : Int32), k2 S x1 x2 = some z → WX rm_x_Verbs_find D (xA ao aa) (xW cI cZ cJ ao aa) p l e s m args below meth c (some (.int z.1)) z.2 2 [] 3 [(0, .ref (ao 22)), (1, .int x1), (2, .int x2)] S) (S : St) (x1 : Int32) (x2 : Int32) (hf : x_Verbs_find_b2_f k2 S x1 x2 = some z) : WX rm_x_Verbs_find D (xA ao aa) (xW cI cZ cJ ao aa) p l e s m args below meth c (some (.int z.1)) z.2 2 [] 3 [(0, .ref (ao 22)), (1, .int x1), (2, .int x2)] S := by
  intro H locs ls hP hS hl
  obtain ⟨hx, hb, hr0, hml, hown, htg, hlk, hK, hN, hI⟩ := id X
  unfold x_Verbs_find_b2_f at hf
  refine lv_iload_n hx hb d_Verbs_find_2 rfl (lv_at hl 2 rfl) ?_
  refine lv_aload_n hx hb d_Verbs_find_3 rfl (lv_at hl 0 rfl) ?_
  refine va_get (D := D) (v := .ref (ao 0)) hx hb htg in_Verbs hown hK hP 22 xo_22 rfl 0 (by decide) (htg _ k_f_Verbs_14) (fun _ h9 => h9) rfl d_Verbs_find_4 ?_
  obtain ⟨q1, he, hf⟩ := ob_some hf
  refine cl_Vi (As := []) (rest := [.int x2]) X (c_x_Row_size (by decide : 0 < 17) he) ok_x_Row_size k_m_Verbs_27 (va_recv hK hP rfl (xo_row (by decide : 0 < 17))) rfl rfl hl.1 (Nat.le_of_ble_eq_true rfl) d_Verbs_find_7 ⟨by decide, by decide⟩ hP hS (fun H locs hP hS => ?_)
  refine lv_icmp_ge (tgt := 40) hx hb d_Verbs_find_10 (by decide) (fun c => ?_) (fun c => ?_)
  · have hf := if_t hf c
    refine lv_iconst (v := (-1)) hx hb d_Verbs_find_40 (by decide) ?_
    obtain rfl := Option.some.inj hf
    exact W.iret hx hb hr0 (fun t ht _ => ⟨⟨rfl, by rw [ht]; exact hP⟩, hS.F ht⟩) hS.2.2 d_Verbs_find_41 hlk
  · have hf := if_f hf c
    refine lv_aload_n hx hb d_Verbs_find_13 rfl (lv_at hl 0 rfl) ?_
    refine va_get (D := D) (v := .ref (ao 0)) hx hb htg in_Verbs hown hK hP 22 xo_22 rfl 0 (by decide) (htg _ k_f_Verbs_14) (fun _ h9 => h9) rfl d_Verbs_find_14 ?_
    refine lv_iload_n hx hb d_Verbs_find_17 rfl (lv_at hl 2 rfl) ?_
    obtain ⟨q2, he, hf⟩ := ob_some hf
    refine cl_Vi (As := [.int x2]) (rest := []) X (c_x_Row_at (by decide : 0 < 17) he) ok_x_Row_at k_m_Verbs_38 (va_recv hK hP rfl (xo_row (by decide : 0 < 17))) rfl rfl hl.1 (Nat.le_of_ble_eq_true rfl) d_Verbs_find_18 ⟨by decide, by decide⟩ hP hS (fun H locs hP hS => ?_)
    refine lv_iload_n hx hb d_Verbs_find_21 rfl (lv_at hl 1 rfl) ?_
    refine lv_icmp_ne (tgt := 34) hx hb d_Verbs_find_22 (by decide) (fun c => ?_) (fun c => ?_)
    · have hf := if_f hf c
      refine lv_iinc (v := (x2 + 1)) (lv' := [(2, .int (x2 + 1)), (0, .ref (ao 22)), (1, .int x1)]) hx hb d_Verbs_find_34 hl (k := 2) rfl rfl (by decide) rfl (fun ls hl => ?_)
      refine lv_goto (tgt := 2) hx hb d_Verbs_find_37 (by decide) ?_
      exact hk2 _ _ _ hf H locs ls hP hS (lv_sub hl [1, 2, 0] rfl)
    · have hf := if_t hf c
      refine lv_aload_n hx hb d_Verbs_find_25 rfl (lv_at hl 0 rfl) ?_
      refine va_get (D := D) (v := .ref (ao 1)) hx hb htg in_Verbs hown hK hP 22 xo_22 rfl 1 (by decide) (htg _ k_f_Verbs_20) (fun _ h9 => h9) rfl d_Verbs_find_26 ?_
      refine lv_iload_n hx hb d_Verbs_find_29 rfl (lv_at hl 2 rfl) ?_
      obtain ⟨q3, he, hf⟩ := ob_some hf
      refine cl_Vi (As := [.int x2]) (rest := []) X (c_x_Row_at (by decide : 1 < 17) he) ok_x_Row_at k_m_Verbs_38 (va_recv hK hP rfl (xo_row (by decide : 1 < 17))) rfl rfl hl.1 (Nat.le_of_ble_eq_true rfl) d_Verbs_find_30 ⟨by decide, by decide⟩ hP hS (fun H locs hP hS => ?_)
      obtain rfl := Option.some.inj hf
      exact W.iret hx hb hr0 (fun t ht _ => ⟨⟨rfl, by rw [ht]; exact hP⟩, hS.F ht⟩) hS.2.2 d_Verbs_find_33 hlk
theorem w_x_Verbs_find_b2 {z : Int32 × St} (X : Cx b_Verbs_find 3 (some .int) R_Verbs D [(cI, .int), (cZ, .boolean), (cJ, .long)] (xA ao aa) (xW cI cZ cJ ao aa) p s m args meth c) : ∀ (n : Nat) (S : St) (x1 : Int32) (x2 : Int32), x_Verbs_find_b2 n S x1 x2 = some z → WX rm_x_Verbs_find D (xA ao aa) (xW cI cZ cJ ao aa) p l e s m args below meth c (some (.int z.1)) z.2 2 [] 3 [(0, .ref (ao 22)), (1, .int x1), (2, .int x2)] S
  | 0, _, _, _, hf => ns hf
  | n + 1, _, _, _, hf => w_x_Verbs_find_b2_f X (w_x_Verbs_find_b2 X n) _ _ _ hf
set_option maxHeartbeats 4000000 in
set_option maxRecDepth 100000 in
theorem w_x_Verbs_find {z : Int32 × St} (X : Cx b_Verbs_find 3 (some .int) R_Verbs D [(cI, .int), (cZ, .boolean), (cJ, .long)] (xA ao aa) (xW cI cZ cJ ao aa) p s m args meth c) (S : St) (x0 : Int32) (hf : x_Verbs_find S x0 = some z) : WX rm_x_Verbs_find D (xA ao aa) (xW cI cZ cJ ao aa) p l e s m args below meth c (some (.int z.1)) z.2 0 [] 3 [(0, .ref (ao 22)), (1, .int x0)] S := by
  intro H locs ls hP hS hl
  obtain ⟨hx, hb, hr0, hml, hown, htg, hlk, hK, hN, hI⟩ := id X
  unfold x_Verbs_find at hf
  refine lv_iconst (v := 0) hx hb d_Verbs_find_0 (by decide) ?_
  refine lv_istore_n (lv' := [(2, .int (0 : Int32)), (0, .ref (ao 22)), (1, .int x0)]) hx hb d_Verbs_find_1 rfl hl (by decide) rfl (fun ls hl => ?_)
  exact w_x_Verbs_find_b2 X _ _ _ _ hf H locs ls hP hS (lv_sub hl [1, 2, 0] rfl)
theorem c_x_Verbs_find {l : Launch} {D : va_G} {cI cZ cJ : ClassId} {ao aa : Nat → Nat} {S : St} {x0 : Int32} {z : Int32 × St} (hz : x_Verbs_find S x0 = some z) : Ct l y_Verbs_find (.code y_Verbs_find b_Verbs_find 3 (some .int) :: gw) rm_x_Verbs_find D [(cI, .int), (cZ, .boolean), (cJ, .long)] (xA ao aa) (xW cI cZ cJ ao aa) [.ref (ao 22), .int x0] S (some (.int z.1)) z.2 :=
  Ct_of (by decide) (fun p e s m args below meth c X => w_x_Verbs_find X _ _ hz) (Nat.le_of_ble_eq_true rfl)
def x_G_mayBeVerbWord (S : St) (x0 : Int32) : Option (Int32 × St) :=
  (x_G_isPlainWord S x0).bind fun q1 =>
  if q1.1 = 0 then
    some ((0 : Int32), q1.2)
  else
    (x_Verbs_find q1.2 x0).bind fun q2 =>
    if q2.1 = (-1 : Int32) then
      some ((1 : Int32), q2.2)
    else
      some ((0 : Int32), q2.2)
def rm_x_G_mayBeVerbWord : Room := { frames := 2, cells := 0, slots := 0, locals := 43 }
theorem ok_x_G_mayBeVerbWord : CalV y_G_mayBeVerbWord b_G_mayBeVerbWord 2 (some .boolean) 1 rm_x_G_mayBeVerbWord := ⟨kc_G_mayBeVerbWord, ki_G_mayBeVerbWord, kl_G_mayBeVerbWord, ji_G, ⟨by decide, by decide, by decide +kernel⟩, rfl, rfl⟩
set_option maxHeartbeats 4000000 in
set_option maxRecDepth 100000 in
theorem w_x_G_mayBeVerbWord {z : Int32 × St} (X : Cx b_G_mayBeVerbWord 2 (some .boolean) R_G D [(cI, .int), (cZ, .boolean), (cJ, .long)] (xA ao aa) (xW cI cZ cJ ao aa) p s m args meth c) (S : St) (x0 : Int32) (hf : x_G_mayBeVerbWord S x0 = some z) : WX rm_x_G_mayBeVerbWord D (xA ao aa) (xW cI cZ cJ ao aa) p l e s m args below meth c (some (.int z.1)) z.2 0 [] 2 [(0, .ref (ao 27)), (1, .int x0)] S := by
  intro H locs ls hP hS hl
  obtain ⟨hx, hb, hr0, hml, hown, htg, hlk, hK, hN, hI⟩ := id X
  unfold x_G_mayBeVerbWord at hf
  refine lv_iload_n hx hb d_G_mayBeVerbWord_0 rfl (lv_at hl 1 rfl) ?_
  obtain ⟨q1, he, hf⟩ := ob_some hf
  refine cl_Si (As := [.int x0]) (rest := []) X (c_x_G_isPlainWord he) ok_x_G_isPlainWord k_m_G_134 rfl rfl hl.1 (Nat.le_of_ble_eq_true rfl) d_G_mayBeVerbWord_1 ⟨by decide, by decide⟩ hP hS (fun H locs hP hS => ?_)
  refine lv_if_eq (tgt := 23) hx hb d_G_mayBeVerbWord_4 (by decide) (fun c => ?_) (fun c => ?_)
  · have hf := if_t hf c
    refine lv_iconst (v := 0) hx hb d_G_mayBeVerbWord_23 (by decide) ?_
    obtain rfl := Option.some.inj hf
    exact W.zret (ty := .boolean) hx hb hr0 rfl (fun t ht _ => ⟨⟨rfl, by rw [ht]; exact hP⟩, hS.F ht⟩) hS.2.2 d_G_mayBeVerbWord_24 hlk
  · have hf := if_f hf c
    refine lv_aload_n hx hb d_G_mayBeVerbWord_7 rfl (lv_at hl 0 rfl) ?_
    refine va_get (D := D) (v := .ref (ao 22)) hx hb htg in_G hown hK hP 27 xo_27 rfl 1 (by decide) (htg _ k_f_G_19) (fun _ h9 => h9) rfl d_G_mayBeVerbWord_8 ?_
    refine lv_iload_n hx hb d_G_mayBeVerbWord_11 rfl (lv_at hl 1 rfl) ?_
    obtain ⟨q2, he, hf⟩ := ob_some hf
    refine cl_Vi (As := [.int x0]) (rest := []) X (c_x_Verbs_find he) ok_x_Verbs_find k_m_G_192 (va_recv hK hP rfl xo_22) rfl rfl hl.1 (Nat.le_of_ble_eq_true rfl) d_G_mayBeVerbWord_12 ⟨by decide, by decide⟩ hP hS (fun H locs hP hS => ?_)
    refine lv_iconst (v := (-1)) hx hb d_G_mayBeVerbWord_15 (by decide) ?_
    refine lv_icmp_ne (tgt := 23) hx hb d_G_mayBeVerbWord_16 (by decide) (fun c => ?_) (fun c => ?_)
    · have hf := if_f hf c
      refine lv_iconst (v := 0) hx hb d_G_mayBeVerbWord_23 (by decide) ?_
      obtain rfl := Option.some.inj hf
      exact W.zret (ty := .boolean) hx hb hr0 rfl (fun t ht _ => ⟨⟨rfl, by rw [ht]; exact hP⟩, hS.F ht⟩) hS.2.2 d_G_mayBeVerbWord_24 hlk
    · have hf := if_t hf c
      refine lv_iconst (v := 1) hx hb d_G_mayBeVerbWord_19 (by decide) ?_
      refine lv_goto (tgt := 24) hx hb d_G_mayBeVerbWord_20 (by decide) ?_
      obtain rfl := Option.some.inj hf
      exact W.zret (ty := .boolean) hx hb hr0 rfl (fun t ht _ => ⟨⟨rfl, by rw [ht]; exact hP⟩, hS.F ht⟩) hS.2.2 d_G_mayBeVerbWord_24 hlk
theorem c_x_G_mayBeVerbWord {l : Launch} {D : va_G} {cI cZ cJ : ClassId} {ao aa : Nat → Nat} {S : St} {x0 : Int32} {z : Int32 × St} (hz : x_G_mayBeVerbWord S x0 = some z) : Ct l y_G_mayBeVerbWord (.code y_G_mayBeVerbWord b_G_mayBeVerbWord 2 (some .boolean) :: gw) rm_x_G_mayBeVerbWord D [(cI, .int), (cZ, .boolean), (cJ, .long)] (xA ao aa) (xW cI cZ cJ ao aa) [.ref (ao 27), .int x0] S (some (.int z.1)) z.2 :=
  Ct_of (by decide) (fun p e s m args below meth c X => w_x_G_mayBeVerbWord X _ _ hz) (Nat.le_of_ble_eq_true rfl)
def x_Verbs_isFull (S : St) : Option (Int32 × St) :=
  if (gI S 24) < (20 : Int32) then
    some ((0 : Int32), S)
  else
    some ((1 : Int32), S)
def rm_x_Verbs_isFull : Room := { frames := 0, cells := 0, slots := 0, locals := 0 }
theorem ok_x_Verbs_isFull : CalV y_Verbs_isFull b_Verbs_isFull 1 (some .boolean) 0 rm_x_Verbs_isFull := ⟨kc_Verbs_isFull, ki_Verbs_isFull, kl_Verbs_isFull, ji_Verbs, ⟨by decide, by decide, by decide +kernel⟩, rfl, rfl⟩
set_option maxHeartbeats 4000000 in
set_option maxRecDepth 100000 in
theorem w_x_Verbs_isFull {z : Int32 × St} (X : Cx b_Verbs_isFull 1 (some .boolean) R_Verbs D [(cI, .int), (cZ, .boolean), (cJ, .long)] (xA ao aa) (xW cI cZ cJ ao aa) p s m args meth c) (S : St) (hf : x_Verbs_isFull S = some z) : WX rm_x_Verbs_isFull D (xA ao aa) (xW cI cZ cJ ao aa) p l e s m args below meth c (some (.int z.1)) z.2 0 [] 1 [(0, .ref (ao 22))] S := by
  intro H locs ls hP hS hl
  obtain ⟨hx, hb, hr0, hml, hown, htg, hlk, hK, hN, hI⟩ := id X
  unfold x_Verbs_isFull at hf
  refine lv_aload_n hx hb d_Verbs_isFull_0 rfl (lv_at hl 0 rfl) ?_
  refine va_get (D := D) (v := .int (gI S 24)) hx hb htg in_Verbs hown hK hP 22 xo_22 rfl 2 (by decide) (htg _ k_f_Verbs_23) (fun _ h9 => h9) rfl d_Verbs_isFull_1 ?_
  refine lv_bipush (v := 20) hx hb d_Verbs_isFull_4 (by decide) ?_
  refine lv_icmp_lt (tgt := 13) hx hb d_Verbs_isFull_6 (by decide) (fun c => ?_) (fun c => ?_)
  · have hf := if_t hf c
    refine lv_iconst (v := 0) hx hb d_Verbs_isFull_13 (by decide) ?_
    obtain rfl := Option.some.inj hf
    exact W.zret (ty := .boolean) hx hb hr0 rfl (fun t ht _ => ⟨⟨rfl, by rw [ht]; exact hP⟩, hS.F ht⟩) hS.2.2 d_Verbs_isFull_14 hlk
  · have hf := if_f hf c
    refine lv_iconst (v := 1) hx hb d_Verbs_isFull_9 (by decide) ?_
    refine lv_goto (tgt := 14) hx hb d_Verbs_isFull_10 (by decide) ?_
    obtain rfl := Option.some.inj hf
    exact W.zret (ty := .boolean) hx hb hr0 rfl (fun t ht _ => ⟨⟨rfl, by rw [ht]; exact hP⟩, hS.F ht⟩) hS.2.2 d_Verbs_isFull_14 hlk
theorem c_x_Verbs_isFull {l : Launch} {D : va_G} {cI cZ cJ : ClassId} {ao aa : Nat → Nat} {S : St} {z : Int32 × St} (hz : x_Verbs_isFull S = some z) : Ct l y_Verbs_isFull (.code y_Verbs_isFull b_Verbs_isFull 1 (some .boolean) :: gw) rm_x_Verbs_isFull D [(cI, .int), (cZ, .boolean), (cJ, .long)] (xA ao aa) (xW cI cZ cJ ao aa) [.ref (ao 22)] S (some (.int z.1)) z.2 :=
  Ct_of (by decide) (fun p e s m args below meth c X => w_x_Verbs_isFull X _ hz) (Nat.le_of_ble_eq_true rfl)
def x_Verbs_hasAllWords (S : St) : Option (Int32 × St) :=
  (x_Row_size 0 S).bind fun q1 =>
  if q1.1 < (60 : Int32) then
    some ((0 : Int32), q1.2)
  else
    some ((1 : Int32), q1.2)
def rm_x_Verbs_hasAllWords : Room := { frames := 1, cells := 0, slots := 0, locals := 20 }
theorem ok_x_Verbs_hasAllWords : CalV y_Verbs_hasAllWords b_Verbs_hasAllWords 1 (some .boolean) 0 rm_x_Verbs_hasAllWords := ⟨kc_Verbs_hasAllWords, ki_Verbs_hasAllWords, kl_Verbs_hasAllWords, ji_Verbs, ⟨by decide, by decide, by decide +kernel⟩, rfl, rfl⟩
set_option maxHeartbeats 4000000 in
set_option maxRecDepth 100000 in
theorem w_x_Verbs_hasAllWords {z : Int32 × St} (X : Cx b_Verbs_hasAllWords 1 (some .boolean) R_Verbs D [(cI, .int), (cZ, .boolean), (cJ, .long)] (xA ao aa) (xW cI cZ cJ ao aa) p s m args meth c) (S : St) (hf : x_Verbs_hasAllWords S = some z) : WX rm_x_Verbs_hasAllWords D (xA ao aa) (xW cI cZ cJ ao aa) p l e s m args below meth c (some (.int z.1)) z.2 0 [] 1 [(0, .ref (ao 22))] S := by
  intro H locs ls hP hS hl
  obtain ⟨hx, hb, hr0, hml, hown, htg, hlk, hK, hN, hI⟩ := id X
  unfold x_Verbs_hasAllWords at hf
  refine lv_aload_n hx hb d_Verbs_hasAllWords_0 rfl (lv_at hl 0 rfl) ?_
  refine va_get (D := D) (v := .ref (ao 0)) hx hb htg in_Verbs hown hK hP 22 xo_22 rfl 0 (by decide) (htg _ k_f_Verbs_14) (fun _ h9 => h9) rfl d_Verbs_hasAllWords_1 ?_
  obtain ⟨q1, he, hf⟩ := ob_some hf
  refine cl_Vi (As := []) (rest := []) X (c_x_Row_size (by decide : 0 < 17) he) ok_x_Row_size k_m_Verbs_27 (va_recv hK hP rfl (xo_row (by decide : 0 < 17))) rfl rfl hl.1 (Nat.le_of_ble_eq_true rfl) d_Verbs_hasAllWords_4 ⟨by decide, by decide⟩ hP hS (fun H locs hP hS => ?_)
  refine lv_bipush (v := 60) hx hb d_Verbs_hasAllWords_7 (by decide) ?_
  refine lv_icmp_lt (tgt := 16) hx hb d_Verbs_hasAllWords_9 (by decide) (fun c => ?_) (fun c => ?_)
  · have hf := if_t hf c
    refine lv_iconst (v := 0) hx hb d_Verbs_hasAllWords_16 (by decide) ?_
    obtain rfl := Option.some.inj hf
    exact W.zret (ty := .boolean) hx hb hr0 rfl (fun t ht _ => ⟨⟨rfl, by rw [ht]; exact hP⟩, hS.F ht⟩) hS.2.2 d_Verbs_hasAllWords_17 hlk
  · have hf := if_f hf c
    refine lv_iconst (v := 1) hx hb d_Verbs_hasAllWords_12 (by decide) ?_
    refine lv_goto (tgt := 17) hx hb d_Verbs_hasAllWords_13 (by decide) ?_
    obtain rfl := Option.some.inj hf
    exact W.zret (ty := .boolean) hx hb hr0 rfl (fun t ht _ => ⟨⟨rfl, by rw [ht]; exact hP⟩, hS.F ht⟩) hS.2.2 d_Verbs_hasAllWords_17 hlk
theorem c_x_Verbs_hasAllWords {l : Launch} {D : va_G} {cI cZ cJ : ClassId} {ao aa : Nat → Nat} {S : St} {z : Int32 × St} (hz : x_Verbs_hasAllWords S = some z) : Ct l y_Verbs_hasAllWords (.code y_Verbs_hasAllWords b_Verbs_hasAllWords 1 (some .boolean) :: gw) rm_x_Verbs_hasAllWords D [(cI, .int), (cZ, .boolean), (cJ, .long)] (xA ao aa) (xW cI cZ cJ ao aa) [.ref (ao 22)] S (some (.int z.1)) z.2 :=
  Ct_of (by decide) (fun p e s m args below meth c X => w_x_Verbs_hasAllWords X _ hz) (Nat.le_of_ble_eq_true rfl)
def x_Row_add (r : Nat) (S : St) (x0 : Int32) : Option (St) :=
  if (gI S r) < 0 then
    some S
  else
    if (Int32.ofNat (xcap r)) ≤ (gI S r) then
      some S
    else
      gd (vin (gI S r) (xcap r)) <|
      some (sI (sA S r (gI S r).toNatClampNeg x0) r ((gI (sA S r (gI S r).toNatClampNeg x0) r) + (1 : Int32)))
def rm_x_Row_add : Room := { frames := 0, cells := 0, slots := 0, locals := 0 }
theorem ok_x_Row_add : CalV y_Row_add b_Row_add 2 none 1 rm_x_Row_add := ⟨kc_Row_add, ki_Row_add, kl_Row_add, ji_Row, ⟨by decide, by decide, by decide +kernel⟩, rfl, rfl⟩
set_option maxHeartbeats 4000000 in
set_option maxRecDepth 100000 in
theorem w_x_Row_add {r : Nat} (hr : r < 17) {z : St} (X : Cx b_Row_add 2 none R_Row D [(cI, .int), (cZ, .boolean), (cJ, .long)] (xA ao aa) (xW cI cZ cJ ao aa) p s m args meth c) (S : St) (x0 : Int32) (hf : x_Row_add r S x0 = some z) : WX rm_x_Row_add D (xA ao aa) (xW cI cZ cJ ao aa) p l e s m args below meth c none z 0 [] 2 [(0, .ref (ao r)), (1, .int x0)] S := by
  intro H locs ls hP hS hl
  obtain ⟨hx, hb, hr0, hml, hown, htg, hlk, hK, hN, hI⟩ := id X
  unfold x_Row_add at hf
  refine lv_aload_n hx hb d_Row_add_0 rfl (lv_at hl 0 rfl) ?_
  refine va_get (D := D) (v := .int (gI S r)) hx hb htg in_Row hown hK hP r (xo_row hr) rfl 1 (by decide) (htg _ k_f_Row_21) (fun _ h9 => h9) rfl d_Row_add_1 ?_
  refine lv_if_lt (tgt := 39) hx hb d_Row_add_4 (by decide) (fun c => ?_) (fun c => ?_)
  · have hf := if_t hf c
    obtain rfl := Option.some.inj hf
    exact W.vret hx hb hr0 (fun t ht _ => ⟨⟨rfl, by rw [ht]; exact hP⟩, hS.F ht⟩) hS.2.2 d_Row_add_39 hlk
  · have hf := if_f hf c
    refine lv_aload_n hx hb d_Row_add_7 rfl (lv_at hl 0 rfl) ?_
    refine va_get (D := D) (v := .int (gI S r)) hx hb htg in_Row hown hK hP r (xo_row hr) rfl 1 (by decide) (htg _ k_f_Row_21) (fun _ h9 => h9) rfl d_Row_add_8 ?_
    refine lv_aload_n hx hb d_Row_add_11 rfl (lv_at hl 0 rfl) ?_
    refine va_get (D := D) (v := .ref (aa r)) hx hb htg in_Row hown hK hP r (xo_row hr) rfl 0 (by decide) (htg _ k_f_Row_15) (fun _ h9 => h9) rfl d_Row_add_12 ?_
    refine va_alen (v := Int32.ofNat (xcap r)) hx hb hK hP (28 + r) 0 (xa_row hr) rfl rfl d_Row_add_15 ?_
    refine lv_icmp_ge (tgt := 39) hx hb d_Row_add_16 (by decide) (fun c => ?_) (fun c => ?_)
    · have hf := if_t hf c
      obtain rfl := Option.some.inj hf
      exact W.vret hx hb hr0 (fun t ht _ => ⟨⟨rfl, by rw [ht]; exact hP⟩, hS.F ht⟩) hS.2.2 d_Row_add_39 hlk
    · have hf := if_f hf c
      refine lv_aload_n hx hb d_Row_add_19 rfl (lv_at hl 0 rfl) ?_
      refine va_get (D := D) (v := .ref (aa r)) hx hb htg in_Row hown hK hP r (xo_row hr) rfl 0 (by decide) (htg _ k_f_Row_15) (fun _ h9 => h9) rfl d_Row_add_20 ?_
      refine lv_aload_n hx hb d_Row_add_23 rfl (lv_at hl 0 rfl) ?_
      refine va_get (D := D) (v := .int (gI S r)) hx hb htg in_Row hown hK hP r (xo_row hr) rfl 1 (by decide) (htg _ k_f_Row_21) (fun _ h9 => h9) rfl d_Row_add_24 ?_
      refine lv_iload_n hx hb d_Row_add_27 rfl (lv_at hl 1 rfl) ?_
      obtain ⟨hg, hf⟩ := gd_some hf
      refine va_iast hx hb hK hP (hI _) hS (28 + r) 0 (xa_row hr) rfl (vin_in hg) d_Row_add_28 (fun H locs hP _ hS => ?_)
      replace hP : va_P D classes (xW cI cZ cJ ao aa (sA S r (gI S r).toNatClampNeg x0)) H := pw (xt_row hr) hP
      refine lv_aload_n hx hb d_Row_add_29 rfl (lv_at hl 0 rfl) ?_
      refine lv_dup hx hb d_Row_add_30 rfl ?_
      refine va_get (D := D) (v := .int (gI (sA S r (gI S r).toNatClampNeg x0) r)) hx hb htg in_Row hown hK hP r (xo_row hr) rfl 1 (by decide) (htg _ k_f_Row_21) (fun _ h9 => h9) rfl d_Row_add_31 ?_
      refine lv_iconst (v := 1) hx hb d_Row_add_34 (by decide) ?_
      refine lv_iadd hx hb d_Row_add_35 ?_
      refine va_put (D := D) (ty := .int) hx hb htg in_Row t_Row t_Row_ok n_Row hown hK hP (hI _) hS r (xo_row hr) rfl 1 (by decide) (htg _ k_f_Row_21) (fun _ h9 => h9) rfl (by decide +kernel) rfl rfl (by decide) d_Row_add_36 (fun H locs hP _ hS => ?_)
      replace hP : va_P D classes (xW cI cZ cJ ao aa (sI (sA S r (gI S r).toNatClampNeg x0) r ((gI (sA S r (gI S r).toNatClampNeg x0) r) + (1 : Int32)))) H := pw (xs_row hr) hP
      obtain rfl := Option.some.inj hf
      exact W.vret hx hb hr0 (fun t ht _ => ⟨⟨rfl, by rw [ht]; exact hP⟩, hS.F ht⟩) hS.2.2 d_Row_add_39 hlk
theorem c_x_Row_add {l : Launch} {D : va_G} {cI cZ cJ : ClassId} {ao aa : Nat → Nat} {r : Nat} (hr : r < 17) {S : St} {x0 : Int32} {z : St} (hz : x_Row_add r S x0 = some z) : Ct l y_Row_add (.code y_Row_add b_Row_add 2 none :: gw) rm_x_Row_add D [(cI, .int), (cZ, .boolean), (cJ, .long)] (xA ao aa) (xW cI cZ cJ ao aa) [.ref (ao r), .int x0] S none z :=
  Ct_of (by decide) (fun p e s m args below meth c X => w_x_Row_add hr X _ _ hz) (Nat.le_of_ble_eq_true rfl)
def x_Verbs_addWord_b49 (k21 : St → Int32 → Int32 → Int32 → Option (Int32 × St)) (S : St) (x1 : Int32) (x3 : Int32) (x4 : Int32) : Option (Int32 × St) :=
  k21 S x1 x3 (x4 + 1)
def x_Verbs_addWord_b21_f (k21 : St → Int32 → Int32 → Int32 → Option (Int32 × St)) (S : St) (x1 : Int32) (x3 : Int32) (x4 : Int32) : Option (Int32 × St) :=
  (x_Row_size 1 S).bind fun q3 =>
  if q3.1 ≤ x4 then
    some (x3, q3.2)
  else
    (x_Row_at 1 q3.2 x4).bind fun q4 =>
    if q4.1 = x1 then
      x_Verbs_addWord_b49 k21 q4.2 x1 (x3 + 1) x4
    else
      x_Verbs_addWord_b49 k21 q4.2 x1 x3 x4
def x_Verbs_addWord_b21 : Nat → St → Int32 → Int32 → Int32 → Option (Int32 × St)
  | 0, _, _, _, _ => none
  | n + 1, S, x1, x3, x4 => x_Verbs_addWord_b21_f (x_Verbs_addWord_b21 n) S x1 x3 x4
def x_Verbs_addWord (S : St) (x0 : Int32) (x1 : Int32) : Option (Int32 × St) :=
  (x_Row_add 0 S x1).bind fun q1 =>
  (x_Row_add 1 q1 x0).bind fun q2 =>
  x_Verbs_addWord_b21 fu q2 x0 (0 : Int32) (0 : Int32)
def rm_x_Verbs_addWord : Room := { frames := 1, cells := 0, slots := 0, locals := 21 }
theorem ok_x_Verbs_addWord : CalV y_Verbs_addWord b_Verbs_addWord 5 (some .int) 2 rm_x_Verbs_addWord := ⟨kc_Verbs_addWord, ki_Verbs_addWord, kl_Verbs_addWord, ji_Verbs, ⟨by decide, by decide, by decide +kernel⟩, rfl, rfl⟩
set_option maxHeartbeats 4000000 in
set_option maxRecDepth 100000 in
theorem w_x_Verbs_addWord_b49 {z : Int32 × St} (X : Cx b_Verbs_addWord 5 (some .int) R_Verbs D [(cI, .int), (cZ, .boolean), (cJ, .long)] (xA ao aa) (xW cI cZ cJ ao aa) p s m args meth c) {k21 : St → Int32 → Int32 → Int32 → Option (Int32 × St)} (hk21 : ∀ (S : St) (x1 : Int32) (x3 : Int32) (x4 : Int32), k21 S x1 x3 x4 = some z → WX rm_x_Verbs_addWord D (xA ao aa) (xW cI cZ cJ ao aa) p l e s m args below meth c (some (.int z.1)) z.2 21 [] 5 [(0, .ref (ao 22)), (1, .int x1), (3, .int x3), (4, .int x4)] S) (S : St) (x1 : Int32) (x3 : Int32) (x4 : Int32) (hf : x_Verbs_addWord_b49 k21 S x1 x3 x4 = some z) : WX rm_x_Verbs_addWord D (xA ao aa) (xW cI cZ cJ ao aa) p l e s m args below meth c (some (.int z.1)) z.2 49 [] 5 [(0, .ref (ao 22)), (1, .int x1), (3, .int x3), (4, .int x4)] S := by
  intro H locs ls hP hS hl
  obtain ⟨hx, hb, hr0, hml, hown, htg, hlk, hK, hN, hI⟩ := id X
  unfold x_Verbs_addWord_b49 at hf
  refine lv_iinc (v := (x4 + 1)) (lv' := [(4, .int (x4 + 1)), (0, .ref (ao 22)), (1, .int x1), (3, .int x3)]) hx hb d_Verbs_addWord_49 hl (k := 3) rfl rfl (by decide) rfl (fun ls hl => ?_)
  refine lv_goto (tgt := 21) hx hb d_Verbs_addWord_52 (by decide) ?_
  exact hk21 _ _ _ _ hf H locs ls hP hS (lv_sub hl [1, 2, 3, 0] rfl)
set_option maxHeartbeats 4000000 in
set_option maxRecDepth 100000 in
theorem w_x_Verbs_addWord_b21_f {z : Int32 × St} (X : Cx b_Verbs_addWord 5 (some .int) R_Verbs D [(cI, .int), (cZ, .boolean), (cJ, .long)] (xA ao aa) (xW cI cZ cJ ao aa) p s m args meth c) {k21 : St → Int32 → Int32 → Int32 → Option (Int32 × St)} (hk21 : ∀ (S : St) (x1 : Int32) (x3 : Int32) (x4 : Int32), k21 S x1 x3 x4 = some z → WX rm_x_Verbs_addWord D (xA ao aa) (xW cI cZ cJ ao aa) p l e s m args below meth c (some (.int z.1)) z.2 21 [] 5 [(0, .ref (ao 22)), (1, .int x1), (3, .int x3), (4, .int x4)] S) (S : St) (x1 : Int32) (x3 : Int32) (x4 : Int32) (hf : x_Verbs_addWord_b21_f k21 S x1 x3 x4 = some z) : WX rm_x_Verbs_addWord D (xA ao aa) (xW cI cZ cJ ao aa) p l e s m args below meth c (some (.int z.1)) z.2 21 [] 5 [(0, .ref (ao 22)), (1, .int x1), (3, .int x3), (4, .int x4)] S := by
  intro H locs ls hP hS hl
  obtain ⟨hx, hb, hr0, hml, hown, htg, hlk, hK, hN, hI⟩ := id X
  unfold x_Verbs_addWord_b21_f at hf
  refine lv_iload hx hb d_Verbs_addWord_21 (lv_at hl 3 rfl) ?_
  refine lv_aload_n hx hb d_Verbs_addWord_23 rfl (lv_at hl 0 rfl) ?_
  refine va_get (D := D) (v := .ref (ao 1)) hx hb htg in_Verbs hown hK hP 22 xo_22 rfl 1 (by decide) (htg _ k_f_Verbs_20) (fun _ h9 => h9) rfl d_Verbs_addWord_24 ?_
  obtain ⟨q3, he, hf⟩ := ob_some hf
  refine cl_Vi (As := []) (rest := [.int x4]) X (c_x_Row_size (by decide : 1 < 17) he) ok_x_Row_size k_m_Verbs_27 (va_recv hK hP rfl (xo_row (by decide : 1 < 17))) rfl rfl hl.1 (Nat.le_of_ble_eq_true rfl) d_Verbs_addWord_27 ⟨by decide, by decide⟩ hP hS (fun H locs hP hS => ?_)
  refine lv_icmp_ge (tgt := 55) hx hb d_Verbs_addWord_30 (by decide) (fun c => ?_) (fun c => ?_)
  · have hf := if_t hf c
    refine lv_iload_n hx hb d_Verbs_addWord_55 rfl (lv_at hl 2 rfl) ?_
    obtain rfl := Option.some.inj hf
    exact W.iret hx hb hr0 (fun t ht _ => ⟨⟨rfl, by rw [ht]; exact hP⟩, hS.F ht⟩) hS.2.2 d_Verbs_addWord_56 hlk
  · have hf := if_f hf c
    refine lv_aload_n hx hb d_Verbs_addWord_33 rfl (lv_at hl 0 rfl) ?_
    refine va_get (D := D) (v := .ref (ao 1)) hx hb htg in_Verbs hown hK hP 22 xo_22 rfl 1 (by decide) (htg _ k_f_Verbs_20) (fun _ h9 => h9) rfl d_Verbs_addWord_34 ?_
    refine lv_iload hx hb d_Verbs_addWord_37 (lv_at hl 3 rfl) ?_
    obtain ⟨q4, he, hf⟩ := ob_some hf
    refine cl_Vi (As := [.int x4]) (rest := []) X (c_x_Row_at (by decide : 1 < 17) he) ok_x_Row_at k_m_Verbs_38 (va_recv hK hP rfl (xo_row (by decide : 1 < 17))) rfl rfl hl.1 (Nat.le_of_ble_eq_true rfl) d_Verbs_addWord_39 ⟨by decide, by decide⟩ hP hS (fun H locs hP hS => ?_)
    refine lv_iload_n hx hb d_Verbs_addWord_42 rfl (lv_at hl 1 rfl) ?_
    refine lv_icmp_ne (tgt := 49) hx hb d_Verbs_addWord_43 (by decide) (fun c => ?_) (fun c => ?_)
    · have hf := if_f hf c
      exact w_x_Verbs_addWord_b49 X hk21 _ _ _ _ hf H locs ls hP hS (lv_sub hl [0, 1, 2, 3] rfl)
    · have hf := if_t hf c
      refine lv_iinc (v := (x3 + 1)) (lv' := [(3, .int (x3 + 1)), (0, .ref (ao 22)), (1, .int x1), (4, .int x4)]) hx hb d_Verbs_addWord_46 hl (k := 2) rfl rfl (by decide) rfl (fun ls hl => ?_)
      exact w_x_Verbs_addWord_b49 X hk21 _ _ _ _ hf H locs ls hP hS (lv_sub hl [1, 2, 0, 3] rfl)
theorem w_x_Verbs_addWord_b21 {z : Int32 × St} (X : Cx b_Verbs_addWord 5 (some .int) R_Verbs D [(cI, .int), (cZ, .boolean), (cJ, .long)] (xA ao aa) (xW cI cZ cJ ao aa) p s m args meth c) : ∀ (n : Nat) (S : St) (x1 : Int32) (x3 : Int32) (x4 : Int32), x_Verbs_addWord_b21 n S x1 x3 x4 = some z → WX rm_x_Verbs_addWord D (xA ao aa) (xW cI cZ cJ ao aa) p l e s m args below meth c (some (.int z.1)) z.2 21 [] 5 [(0, .ref (ao 22)), (1, .int x1), (3, .int x3), (4, .int x4)] S
  | 0, _, _, _, _, hf => ns hf
  | n + 1, _, _, _, _, hf => w_x_Verbs_addWord_b21_f X (w_x_Verbs_addWord_b21 X n) _ _ _ _ hf
set_option maxHeartbeats 4000000 in
set_option maxRecDepth 100000 in
theorem w_x_Verbs_addWord {z : Int32 × St} (X : Cx b_Verbs_addWord 5 (some .int) R_Verbs D [(cI, .int), (cZ, .boolean), (cJ, .long)] (xA ao aa) (xW cI cZ cJ ao aa) p s m args meth c) (S : St) (x0 : Int32) (x1 : Int32) (hf : x_Verbs_addWord S x0 x1 = some z) : WX rm_x_Verbs_addWord D (xA ao aa) (xW cI cZ cJ ao aa) p l e s m args below meth c (some (.int z.1)) z.2 0 [] 5 [(0, .ref (ao 22)), (1, .int x0), (2, .int x1)] S := by
  intro H locs ls hP hS hl
  obtain ⟨hx, hb, hr0, hml, hown, htg, hlk, hK, hN, hI⟩ := id X
  unfold x_Verbs_addWord at hf
  refine lv_aload_n hx hb d_Verbs_addWord_0 rfl (lv_at hl 0 rfl) ?_
  refine va_get (D := D) (v := .ref (ao 0)) hx hb htg in_Verbs hown hK hP 22 xo_22 rfl 0 (by decide) (htg _ k_f_Verbs_14) (fun _ h9 => h9) rfl d_Verbs_addWord_1 ?_
  refine lv_iload_n hx hb d_Verbs_addWord_4 rfl (lv_at hl 2 rfl) ?_
  obtain ⟨q1, he, hf⟩ := ob_some hf
  refine cl_Vv (As := [.int x1]) (rest := []) X (c_x_Row_add (by decide : 0 < 17) he) ok_x_Row_add k_m_Verbs_35 (va_recv hK hP rfl (xo_row (by decide : 0 < 17))) rfl rfl hl.1 (Nat.le_of_ble_eq_true rfl) d_Verbs_addWord_5 ⟨by decide, by decide⟩ hP hS (fun H locs hP hS => ?_)
  refine lv_aload_n hx hb d_Verbs_addWord_8 rfl (lv_at hl 0 rfl) ?_
  refine va_get (D := D) (v := .ref (ao 1)) hx hb htg in_Verbs hown hK hP 22 xo_22 rfl 1 (by decide) (htg _ k_f_Verbs_20) (fun _ h9 => h9) rfl d_Verbs_addWord_9 ?_
  refine lv_iload_n hx hb d_Verbs_addWord_12 rfl (lv_at hl 1 rfl) ?_
  obtain ⟨q2, he, hf⟩ := ob_some hf
  refine cl_Vv (As := [.int x0]) (rest := []) X (c_x_Row_add (by decide : 1 < 17) he) ok_x_Row_add k_m_Verbs_35 (va_recv hK hP rfl (xo_row (by decide : 1 < 17))) rfl rfl hl.1 (Nat.le_of_ble_eq_true rfl) d_Verbs_addWord_13 ⟨by decide, by decide⟩ hP hS (fun H locs hP hS => ?_)
  refine lv_iconst (v := 0) hx hb d_Verbs_addWord_16 (by decide) ?_
  refine lv_istore_n (lv' := [(3, .int (0 : Int32)), (0, .ref (ao 22)), (1, .int x0), (2, .int x1)]) hx hb d_Verbs_addWord_17 rfl hl (by decide) rfl (fun ls hl => ?_)
  refine lv_iconst (v := 0) hx hb d_Verbs_addWord_18 (by decide) ?_
  refine lv_istore (lv' := [(4, .int (0 : Int32)), (3, .int (0 : Int32)), (0, .ref (ao 22)), (1, .int x0), (2, .int x1)]) hx hb d_Verbs_addWord_19 hl (by decide) rfl (fun ls hl => ?_)
  exact w_x_Verbs_addWord_b21 X _ _ _ _ _ hf H locs ls hP hS (lv_sub hl [2, 3, 1, 0] rfl)
theorem c_x_Verbs_addWord {l : Launch} {D : va_G} {cI cZ cJ : ClassId} {ao aa : Nat → Nat} {S : St} {x0 : Int32} {x1 : Int32} {z : Int32 × St} (hz : x_Verbs_addWord S x0 x1 = some z) : Ct l y_Verbs_addWord (.code y_Verbs_addWord b_Verbs_addWord 5 (some .int) :: gw) rm_x_Verbs_addWord D [(cI, .int), (cZ, .boolean), (cJ, .long)] (xA ao aa) (xW cI cZ cJ ao aa) [.ref (ao 22), .int x0, .int x1] S (some (.int z.1)) z.2 :=
  Ct_of (by decide) (fun p e s m args below meth c X => w_x_Verbs_addWord X _ _ _ hz) (Nat.le_of_ble_eq_true rfl)
def x_Verbs_add (S : St) (x0 : Int32) : Option (Int32 × St) :=
  (x_Verbs_addWord (sI S 24 ((gI S 24) + (1 : Int32))) ((gI (sI S 24 ((gI S 24) + (1 : Int32))) 24) - (1 : Int32)) x0).bind fun q1 =>
  some (((gI q1.2 24) - (1 : Int32)), q1.2)
def rm_x_Verbs_add : Room := { frames := 2, cells := 0, slots := 0, locals := 45 }
theorem ok_x_Verbs_add : CalV y_Verbs_add b_Verbs_add 2 (some .int) 1 rm_x_Verbs_add := ⟨kc_Verbs_add, ki_Verbs_add, kl_Verbs_add, ji_Verbs, ⟨by decide, by decide, by decide +kernel⟩, rfl, rfl⟩
set_option maxHeartbeats 4000000 in
set_option maxRecDepth 100000 in
theorem w_x_Verbs_add {z : Int32 × St} (X : Cx b_Verbs_add 2 (some .int) R_Verbs D [(cI, .int), (cZ, .boolean), (cJ, .long)] (xA ao aa) (xW cI cZ cJ ao aa) p s m args meth c) (S : St) (x0 : Int32) (hf : x_Verbs_add S x0 = some z) : WX rm_x_Verbs_add D (xA ao aa) (xW cI cZ cJ ao aa) p l e s m args below meth c (some (.int z.1)) z.2 0 [] 2 [(0, .ref (ao 22)), (1, .int x0)] S := by
  intro H locs ls hP hS hl
  obtain ⟨hx, hb, hr0, hml, hown, htg, hlk, hK, hN, hI⟩ := id X
  unfold x_Verbs_add at hf
  refine lv_aload_n hx hb d_Verbs_add_0 rfl (lv_at hl 0 rfl) ?_
  refine lv_dup hx hb d_Verbs_add_1 rfl ?_
  refine va_get (D := D) (v := .int (gI S 24)) hx hb htg in_Verbs hown hK hP 22 xo_22 rfl 2 (by decide) (htg _ k_f_Verbs_23) (fun _ h9 => h9) rfl d_Verbs_add_2 ?_
  refine lv_iconst (v := 1) hx hb d_Verbs_add_5 (by decide) ?_
  refine lv_iadd hx hb d_Verbs_add_6 ?_
  refine va_put (D := D) (ty := .int) hx hb htg in_Verbs t_Verbs t_Verbs_ok n_Verbs hown hK hP (hI _) hS 22 xo_22 rfl 2 (by decide) (htg _ k_f_Verbs_23) (fun _ h9 => h9) rfl (by decide +kernel) rfl rfl (by decide) d_Verbs_add_7 (fun H locs hP _ hS => ?_)
  replace hP : va_P D classes (xW cI cZ cJ ao aa (sI S 24 ((gI S 24) + (1 : Int32)))) H := pw xs_22_count hP
  refine lv_aload_n hx hb d_Verbs_add_10 rfl (lv_at hl 0 rfl) ?_
  refine lv_aload_n hx hb d_Verbs_add_11 rfl (lv_at hl 0 rfl) ?_
  refine va_get (D := D) (v := .int (gI (sI S 24 ((gI S 24) + (1 : Int32))) 24)) hx hb htg in_Verbs hown hK hP 22 xo_22 rfl 2 (by decide) (htg _ k_f_Verbs_23) (fun _ h9 => h9) rfl d_Verbs_add_12 ?_
  refine lv_iconst (v := 1) hx hb d_Verbs_add_15 (by decide) ?_
  refine lv_isub hx hb d_Verbs_add_16 ?_
  refine lv_iload_n hx hb d_Verbs_add_17 rfl (lv_at hl 1 rfl) ?_
  obtain ⟨q1, he, hf⟩ := ob_some hf
  refine cl_Vi (As := [.int ((gI (sI S 24 ((gI S 24) + (1 : Int32))) 24) - (1 : Int32)), .int x0]) (rest := []) X (c_x_Verbs_addWord he) ok_x_Verbs_addWord k_m_Verbs_31 (va_recv hK hP rfl xo_22) rfl rfl hl.1 (Nat.le_of_ble_eq_true rfl) d_Verbs_add_18 ⟨by decide, by decide⟩ hP hS (fun H locs hP hS => ?_)
  refine lv_pop hx hb d_Verbs_add_21 rfl ?_
  refine lv_aload_n hx hb d_Verbs_add_22 rfl (lv_at hl 0 rfl) ?_
  refine va_get (D := D) (v := .int (gI q1.2 24)) hx hb htg in_Verbs hown hK hP 22 xo_22 rfl 2 (by decide) (htg _ k_f_Verbs_23) (fun _ h9 => h9) rfl d_Verbs_add_23 ?_
  refine lv_iconst (v := 1) hx hb d_Verbs_add_26 (by decide) ?_
  refine lv_isub hx hb d_Verbs_add_27 ?_
  obtain rfl := Option.some.inj hf
  exact W.iret hx hb hr0 (fun t ht _ => ⟨⟨rfl, by rw [ht]; exact hP⟩, hS.F ht⟩) hS.2.2 d_Verbs_add_28 hlk
theorem c_x_Verbs_add {l : Launch} {D : va_G} {cI cZ cJ : ClassId} {ao aa : Nat → Nat} {S : St} {x0 : Int32} {z : Int32 × St} (hz : x_Verbs_add S x0 = some z) : Ct l y_Verbs_add (.code y_Verbs_add b_Verbs_add 2 (some .int) :: gw) rm_x_Verbs_add D [(cI, .int), (cZ, .boolean), (cJ, .long)] (xA ao aa) (xW cI cZ cJ ao aa) [.ref (ao 22), .int x0] S (some (.int z.1)) z.2 :=
  Ct_of (by decide) (fun p e s m args below meth c X => w_x_Verbs_add X _ _ hz) (Nat.le_of_ble_eq_true rfl)
def x_G_verb (S : St) (x0 : Int32) : Option (Int32 × St) :=
  (x_G_mayBeVerbWord S x0).bind fun q1 =>
  if q1.1 = 0 then
    some ((-102 : Int32), q1.2)
  else
    (x_Verbs_isFull q1.2).bind fun q2 =>
    if q2.1 = 0 then
      (x_Verbs_hasAllWords q2.2).bind fun q3 =>
      if q3.1 = 0 then
        (x_Verbs_add q3.2 x0).bind fun q4 =>
        some (q4.1, q4.2)
      else
        some ((-104 : Int32), q3.2)
    else
      some ((-104 : Int32), q2.2)
def rm_x_G_verb : Room := { frames := 3, cells := 0, slots := 0, locals := 66 }
theorem ok_x_G_verb : CalV y_G_verb b_G_verb 2 (some .int) 1 rm_x_G_verb := ⟨kc_G_verb, ki_G_verb, kl_G_verb, ji_G, ⟨by decide, by decide, by decide +kernel⟩, rfl, rfl⟩
set_option maxHeartbeats 4000000 in
set_option maxRecDepth 100000 in
theorem w_x_G_verb {z : Int32 × St} (X : Cx b_G_verb 2 (some .int) R_G D [(cI, .int), (cZ, .boolean), (cJ, .long)] (xA ao aa) (xW cI cZ cJ ao aa) p s m args meth c) (S : St) (x0 : Int32) (hf : x_G_verb S x0 = some z) : WX rm_x_G_verb D (xA ao aa) (xW cI cZ cJ ao aa) p l e s m args below meth c (some (.int z.1)) z.2 0 [] 2 [(0, .ref (ao 27)), (1, .int x0)] S := by
  intro H locs ls hP hS hl
  obtain ⟨hx, hb, hr0, hml, hown, htg, hlk, hK, hN, hI⟩ := id X
  unfold x_G_verb at hf
  refine lv_aload_n hx hb d_G_verb_0 rfl (lv_at hl 0 rfl) ?_
  refine lv_iload_n hx hb d_G_verb_1 rfl (lv_at hl 1 rfl) ?_
  obtain ⟨q1, he, hf⟩ := ob_some hf
  refine cl_Vi (As := [.int x0]) (rest := []) X (c_x_G_mayBeVerbWord he) ok_x_G_mayBeVerbWord k_m_G_87 (va_recv hK hP rfl xo_27) rfl rfl hl.1 (Nat.le_of_ble_eq_true rfl) d_G_verb_2 ⟨by decide, by decide⟩ hP hS (fun H locs hP hS => ?_)
  refine lv_if_ne (tgt := 11) hx hb d_G_verb_5 (by decide) (fun c => ?_) (fun c => ?_)
  · have hf := if_f hf c
    refine lv_aload_n hx hb d_G_verb_11 rfl (lv_at hl 0 rfl) ?_
    refine va_get (D := D) (v := .ref (ao 22)) hx hb htg in_G hown hK hP 27 xo_27 rfl 1 (by decide) (htg _ k_f_G_19) (fun _ h9 => h9) rfl d_G_verb_12 ?_
    obtain ⟨q2, he, hf⟩ := ob_some hf
    refine cl_Vi (As := []) (rest := []) X (c_x_Verbs_isFull he) ok_x_Verbs_isFull k_m_G_91 (va_recv hK hP rfl xo_22) rfl rfl hl.1 (Nat.le_of_ble_eq_true rfl) d_G_verb_15 ⟨by decide, by decide⟩ hP hS (fun H locs hP hS => ?_)
    refine lv_if_ne (tgt := 31) hx hb d_G_verb_18 (by decide) (fun c => ?_) (fun c => ?_)
    · have hf := if_f hf c
      refine lv_bipush (v := (-104)) hx hb d_G_verb_31 (by decide) ?_
      obtain rfl := Option.some.inj hf
      exact W.iret hx hb hr0 (fun t ht _ => ⟨⟨rfl, by rw [ht]; exact hP⟩, hS.F ht⟩) hS.2.2 d_G_verb_33 hlk
    · have hf := if_t hf c
      refine lv_aload_n hx hb d_G_verb_21 rfl (lv_at hl 0 rfl) ?_
      refine va_get (D := D) (v := .ref (ao 22)) hx hb htg in_G hown hK hP 27 xo_27 rfl 1 (by decide) (htg _ k_f_G_19) (fun _ h9 => h9) rfl d_G_verb_22 ?_
      obtain ⟨q3, he, hf⟩ := ob_some hf
      refine cl_Vi (As := []) (rest := []) X (c_x_Verbs_hasAllWords he) ok_x_Verbs_hasAllWords k_m_G_95 (va_recv hK hP rfl xo_22) rfl rfl hl.1 (Nat.le_of_ble_eq_true rfl) d_G_verb_25 ⟨by decide, by decide⟩ hP hS (fun H locs hP hS => ?_)
      refine lv_if_eq (tgt := 34) hx hb d_G_verb_28 (by decide) (fun c => ?_) (fun c => ?_)
      · have hf := if_t hf c
        refine lv_aload_n hx hb d_G_verb_34 rfl (lv_at hl 0 rfl) ?_
        refine va_get (D := D) (v := .ref (ao 22)) hx hb htg in_G hown hK hP 27 xo_27 rfl 1 (by decide) (htg _ k_f_G_19) (fun _ h9 => h9) rfl d_G_verb_35 ?_
        refine lv_iload_n hx hb d_G_verb_38 rfl (lv_at hl 1 rfl) ?_
        obtain ⟨q4, he, hf⟩ := ob_some hf
        refine cl_Vi (As := [.int x0]) (rest := []) X (c_x_Verbs_add he) ok_x_Verbs_add k_m_G_98 (va_recv hK hP rfl xo_22) rfl rfl hl.1 (Nat.le_of_ble_eq_true rfl) d_G_verb_39 ⟨by decide, by decide⟩ hP hS (fun H locs hP hS => ?_)
        obtain rfl := Option.some.inj hf
        exact W.iret hx hb hr0 (fun t ht _ => ⟨⟨rfl, by rw [ht]; exact hP⟩, hS.F ht⟩) hS.2.2 d_G_verb_42 hlk
      · have hf := if_f hf c
        refine lv_bipush (v := (-104)) hx hb d_G_verb_31 (by decide) ?_
        obtain rfl := Option.some.inj hf
        exact W.iret hx hb hr0 (fun t ht _ => ⟨⟨rfl, by rw [ht]; exact hP⟩, hS.F ht⟩) hS.2.2 d_G_verb_33 hlk
  · have hf := if_t hf c
    refine lv_bipush (v := (-102)) hx hb d_G_verb_8 (by decide) ?_
    obtain rfl := Option.some.inj hf
    exact W.iret hx hb hr0 (fun t ht _ => ⟨⟨rfl, by rw [ht]; exact hP⟩, hS.F ht⟩) hS.2.2 d_G_verb_10 hlk
theorem c_x_G_verb {l : Launch} {D : va_G} {cI cZ cJ : ClassId} {ao aa : Nat → Nat} {S : St} {x0 : Int32} {z : Int32 × St} (hz : x_G_verb S x0 = some z) : Ct l y_G_verb (.code y_G_verb b_G_verb 2 (some .int) :: gw) rm_x_G_verb D [(cI, .int), (cZ, .boolean), (cJ, .long)] (xA ao aa) (xW cI cZ cJ ao aa) [.ref (ao 27), .int x0] S (some (.int z.1)) z.2 :=
  Ct_of (by decide) (fun p e s m args below meth c X => w_x_G_verb X _ _ hz) (Nat.le_of_ble_eq_true rfl)
def x_Verbs_has (S : St) (x0 : Int32) : Option (Int32 × St) :=
  if x0 < 0 then
    some ((0 : Int32), S)
  else
    if (gI S 24) ≤ x0 then
      some ((0 : Int32), S)
    else
      some ((1 : Int32), S)
def rm_x_Verbs_has : Room := { frames := 0, cells := 0, slots := 0, locals := 0 }
theorem ok_x_Verbs_has : CalV y_Verbs_has b_Verbs_has 2 (some .boolean) 1 rm_x_Verbs_has := ⟨kc_Verbs_has, ki_Verbs_has, kl_Verbs_has, ji_Verbs, ⟨by decide, by decide, by decide +kernel⟩, rfl, rfl⟩
set_option maxHeartbeats 4000000 in
set_option maxRecDepth 100000 in
theorem w_x_Verbs_has {z : Int32 × St} (X : Cx b_Verbs_has 2 (some .boolean) R_Verbs D [(cI, .int), (cZ, .boolean), (cJ, .long)] (xA ao aa) (xW cI cZ cJ ao aa) p s m args meth c) (S : St) (x0 : Int32) (hf : x_Verbs_has S x0 = some z) : WX rm_x_Verbs_has D (xA ao aa) (xW cI cZ cJ ao aa) p l e s m args below meth c (some (.int z.1)) z.2 0 [] 2 [(0, .ref (ao 22)), (1, .int x0)] S := by
  intro H locs ls hP hS hl
  obtain ⟨hx, hb, hr0, hml, hown, htg, hlk, hK, hN, hI⟩ := id X
  unfold x_Verbs_has at hf
  refine lv_iload_n hx hb d_Verbs_has_0 rfl (lv_at hl 1 rfl) ?_
  refine lv_if_lt (tgt := 16) hx hb d_Verbs_has_1 (by decide) (fun c => ?_) (fun c => ?_)
  · have hf := if_t hf c
    refine lv_iconst (v := 0) hx hb d_Verbs_has_16 (by decide) ?_
    obtain rfl := Option.some.inj hf
    exact W.zret (ty := .boolean) hx hb hr0 rfl (fun t ht _ => ⟨⟨rfl, by rw [ht]; exact hP⟩, hS.F ht⟩) hS.2.2 d_Verbs_has_17 hlk
  · have hf := if_f hf c
    refine lv_iload_n hx hb d_Verbs_has_4 rfl (lv_at hl 1 rfl) ?_
    refine lv_aload_n hx hb d_Verbs_has_5 rfl (lv_at hl 0 rfl) ?_
    refine va_get (D := D) (v := .int (gI S 24)) hx hb htg in_Verbs hown hK hP 22 xo_22 rfl 2 (by decide) (htg _ k_f_Verbs_23) (fun _ h9 => h9) rfl d_Verbs_has_6 ?_
    refine lv_icmp_ge (tgt := 16) hx hb d_Verbs_has_9 (by decide) (fun c => ?_) (fun c => ?_)
    · have hf := if_t hf c
      refine lv_iconst (v := 0) hx hb d_Verbs_has_16 (by decide) ?_
      obtain rfl := Option.some.inj hf
      exact W.zret (ty := .boolean) hx hb hr0 rfl (fun t ht _ => ⟨⟨rfl, by rw [ht]; exact hP⟩, hS.F ht⟩) hS.2.2 d_Verbs_has_17 hlk
    · have hf := if_f hf c
      refine lv_iconst (v := 1) hx hb d_Verbs_has_12 (by decide) ?_
      refine lv_goto (tgt := 17) hx hb d_Verbs_has_13 (by decide) ?_
      obtain rfl := Option.some.inj hf
      exact W.zret (ty := .boolean) hx hb hr0 rfl (fun t ht _ => ⟨⟨rfl, by rw [ht]; exact hP⟩, hS.F ht⟩) hS.2.2 d_Verbs_has_17 hlk
theorem c_x_Verbs_has {l : Launch} {D : va_G} {cI cZ cJ : ClassId} {ao aa : Nat → Nat} {S : St} {x0 : Int32} {z : Int32 × St} (hz : x_Verbs_has S x0 = some z) : Ct l y_Verbs_has (.code y_Verbs_has b_Verbs_has 2 (some .boolean) :: gw) rm_x_Verbs_has D [(cI, .int), (cZ, .boolean), (cJ, .long)] (xA ao aa) (xW cI cZ cJ ao aa) [.ref (ao 22), .int x0] S (some (.int z.1)) z.2 :=
  Ct_of (by decide) (fun p e s m args below meth c X => w_x_Verbs_has X _ _ hz) (Nat.le_of_ble_eq_true rfl)
def x_G_like (S : St) (x0 : Int32) (x1 : Int32) : Option (Int32 × St) :=
  (x_Verbs_has S x0).bind fun q1 =>
  if q1.1 = 0 then
    some ((-101 : Int32), q1.2)
  else
    (x_G_mayBeVerbWord q1.2 x1).bind fun q2 =>
    if q2.1 = 0 then
      some ((-102 : Int32), q2.2)
    else
      (x_Verbs_hasAllWords q2.2).bind fun q3 =>
      if q3.1 = 0 then
        (x_Verbs_addWord q3.2 x0 x1).bind fun q4 =>
        some (q4.1, q4.2)
      else
        some ((-104 : Int32), q3.2)
def rm_x_G_like : Room := { frames := 3, cells := 0, slots := 0, locals := 64 }
theorem ok_x_G_like : CalV y_G_like b_G_like 3 (some .int) 2 rm_x_G_like := ⟨kc_G_like, ki_G_like, kl_G_like, ji_G, ⟨by decide, by decide, by decide +kernel⟩, rfl, rfl⟩
set_option maxHeartbeats 4000000 in
set_option maxRecDepth 100000 in
theorem w_x_G_like {z : Int32 × St} (X : Cx b_G_like 3 (some .int) R_G D [(cI, .int), (cZ, .boolean), (cJ, .long)] (xA ao aa) (xW cI cZ cJ ao aa) p s m args meth c) (S : St) (x0 : Int32) (x1 : Int32) (hf : x_G_like S x0 x1 = some z) : WX rm_x_G_like D (xA ao aa) (xW cI cZ cJ ao aa) p l e s m args below meth c (some (.int z.1)) z.2 0 [] 3 [(0, .ref (ao 27)), (1, .int x0), (2, .int x1)] S := by
  intro H locs ls hP hS hl
  obtain ⟨hx, hb, hr0, hml, hown, htg, hlk, hK, hN, hI⟩ := id X
  unfold x_G_like at hf
  refine lv_aload_n hx hb d_G_like_0 rfl (lv_at hl 0 rfl) ?_
  refine va_get (D := D) (v := .ref (ao 22)) hx hb htg in_G hown hK hP 27 xo_27 rfl 1 (by decide) (htg _ k_f_G_19) (fun _ h9 => h9) rfl d_G_like_1 ?_
  refine lv_iload_n hx hb d_G_like_4 rfl (lv_at hl 1 rfl) ?_
  obtain ⟨q1, he, hf⟩ := ob_some hf
  refine cl_Vi (As := [.int x0]) (rest := []) X (c_x_Verbs_has he) ok_x_Verbs_has k_m_G_102 (va_recv hK hP rfl xo_22) rfl rfl hl.1 (Nat.le_of_ble_eq_true rfl) d_G_like_5 ⟨by decide, by decide⟩ hP hS (fun H locs hP hS => ?_)
  refine lv_if_ne (tgt := 14) hx hb d_G_like_8 (by decide) (fun c => ?_) (fun c => ?_)
  · have hf := if_f hf c
    refine lv_aload_n hx hb d_G_like_14 rfl (lv_at hl 0 rfl) ?_
    refine lv_iload_n hx hb d_G_like_15 rfl (lv_at hl 2 rfl) ?_
    obtain ⟨q2, he, hf⟩ := ob_some hf
    refine cl_Vi (As := [.int x1]) (rest := []) X (c_x_G_mayBeVerbWord he) ok_x_G_mayBeVerbWord k_m_G_87 (va_recv hK hP rfl xo_27) rfl rfl hl.1 (Nat.le_of_ble_eq_true rfl) d_G_like_16 ⟨by decide, by decide⟩ hP hS (fun H locs hP hS => ?_)
    refine lv_if_ne (tgt := 25) hx hb d_G_like_19 (by decide) (fun c => ?_) (fun c => ?_)
    · have hf := if_f hf c
      refine lv_aload_n hx hb d_G_like_25 rfl (lv_at hl 0 rfl) ?_
      refine va_get (D := D) (v := .ref (ao 22)) hx hb htg in_G hown hK hP 27 xo_27 rfl 1 (by decide) (htg _ k_f_G_19) (fun _ h9 => h9) rfl d_G_like_26 ?_
      obtain ⟨q3, he, hf⟩ := ob_some hf
      refine cl_Vi (As := []) (rest := []) X (c_x_Verbs_hasAllWords he) ok_x_Verbs_hasAllWords k_m_G_95 (va_recv hK hP rfl xo_22) rfl rfl hl.1 (Nat.le_of_ble_eq_true rfl) d_G_like_29 ⟨by decide, by decide⟩ hP hS (fun H locs hP hS => ?_)
      refine lv_if_eq (tgt := 38) hx hb d_G_like_32 (by decide) (fun c => ?_) (fun c => ?_)
      · have hf := if_t hf c
        refine lv_aload_n hx hb d_G_like_38 rfl (lv_at hl 0 rfl) ?_
        refine va_get (D := D) (v := .ref (ao 22)) hx hb htg in_G hown hK hP 27 xo_27 rfl 1 (by decide) (htg _ k_f_G_19) (fun _ h9 => h9) rfl d_G_like_39 ?_
        refine lv_iload_n hx hb d_G_like_42 rfl (lv_at hl 1 rfl) ?_
        refine lv_iload_n hx hb d_G_like_43 rfl (lv_at hl 2 rfl) ?_
        obtain ⟨q4, he, hf⟩ := ob_some hf
        refine cl_Vi (As := [.int x0, .int x1]) (rest := []) X (c_x_Verbs_addWord he) ok_x_Verbs_addWord k_m_G_105 (va_recv hK hP rfl xo_22) rfl rfl hl.1 (Nat.le_of_ble_eq_true rfl) d_G_like_44 ⟨by decide, by decide⟩ hP hS (fun H locs hP hS => ?_)
        obtain rfl := Option.some.inj hf
        exact W.iret hx hb hr0 (fun t ht _ => ⟨⟨rfl, by rw [ht]; exact hP⟩, hS.F ht⟩) hS.2.2 d_G_like_47 hlk
      · have hf := if_f hf c
        refine lv_bipush (v := (-104)) hx hb d_G_like_35 (by decide) ?_
        obtain rfl := Option.some.inj hf
        exact W.iret hx hb hr0 (fun t ht _ => ⟨⟨rfl, by rw [ht]; exact hP⟩, hS.F ht⟩) hS.2.2 d_G_like_37 hlk
    · have hf := if_t hf c
      refine lv_bipush (v := (-102)) hx hb d_G_like_22 (by decide) ?_
      obtain rfl := Option.some.inj hf
      exact W.iret hx hb hr0 (fun t ht _ => ⟨⟨rfl, by rw [ht]; exact hP⟩, hS.F ht⟩) hS.2.2 d_G_like_24 hlk
  · have hf := if_t hf c
    refine lv_bipush (v := (-101)) hx hb d_G_like_11 (by decide) ?_
    obtain rfl := Option.some.inj hf
    exact W.iret hx hb hr0 (fun t ht _ => ⟨⟨rfl, by rw [ht]; exact hP⟩, hS.F ht⟩) hS.2.2 d_G_like_13 hlk
theorem c_x_G_like {l : Launch} {D : va_G} {cI cZ cJ : ClassId} {ao aa : Nat → Nat} {S : St} {x0 : Int32} {x1 : Int32} {z : Int32 × St} (hz : x_G_like S x0 x1 = some z) : Ct l y_G_like (.code y_G_like b_G_like 3 (some .int) :: gw) rm_x_G_like D [(cI, .int), (cZ, .boolean), (cJ, .long)] (xA ao aa) (xW cI cZ cJ ao aa) [.ref (ao 27), .int x0, .int x1] S (some (.int z.1)) z.2 :=
  Ct_of (by decide) (fun p e s m args below meth c X => w_x_G_like X _ _ _ hz) (Nat.le_of_ble_eq_true rfl)
def x_Lines_isFull (S : St) : Option (Int32 × St) :=
  if (gI S 25) < (60 : Int32) then
    some ((0 : Int32), S)
  else
    some ((1 : Int32), S)
def rm_x_Lines_isFull : Room := { frames := 0, cells := 0, slots := 0, locals := 0 }
theorem ok_x_Lines_isFull : CalV y_Lines_isFull b_Lines_isFull 1 (some .boolean) 0 rm_x_Lines_isFull := ⟨kc_Lines_isFull, ki_Lines_isFull, kl_Lines_isFull, ji_Lines, ⟨by decide, by decide, by decide +kernel⟩, rfl, rfl⟩
set_option maxHeartbeats 4000000 in
set_option maxRecDepth 100000 in
theorem w_x_Lines_isFull {z : Int32 × St} (X : Cx b_Lines_isFull 1 (some .boolean) R_Lines D [(cI, .int), (cZ, .boolean), (cJ, .long)] (xA ao aa) (xW cI cZ cJ ao aa) p s m args meth c) (S : St) (hf : x_Lines_isFull S = some z) : WX rm_x_Lines_isFull D (xA ao aa) (xW cI cZ cJ ao aa) p l e s m args below meth c (some (.int z.1)) z.2 0 [] 1 [(0, .ref (ao 23))] S := by
  intro H locs ls hP hS hl
  obtain ⟨hx, hb, hr0, hml, hown, htg, hlk, hK, hN, hI⟩ := id X
  unfold x_Lines_isFull at hf
  refine lv_aload_n hx hb d_Lines_isFull_0 rfl (lv_at hl 0 rfl) ?_
  refine va_get (D := D) (v := .int (gI S 25)) hx hb htg in_Lines hown hK hP 23 xo_23 rfl 6 (by decide) (htg _ k_f_Lines_31) (fun _ h9 => h9) rfl d_Lines_isFull_1 ?_
  refine lv_bipush (v := 60) hx hb d_Lines_isFull_4 (by decide) ?_
  refine lv_icmp_lt (tgt := 13) hx hb d_Lines_isFull_6 (by decide) (fun c => ?_) (fun c => ?_)
  · have hf := if_t hf c
    refine lv_iconst (v := 0) hx hb d_Lines_isFull_13 (by decide) ?_
    obtain rfl := Option.some.inj hf
    exact W.zret (ty := .boolean) hx hb hr0 rfl (fun t ht _ => ⟨⟨rfl, by rw [ht]; exact hP⟩, hS.F ht⟩) hS.2.2 d_Lines_isFull_14 hlk
  · have hf := if_f hf c
    refine lv_iconst (v := 1) hx hb d_Lines_isFull_9 (by decide) ?_
    refine lv_goto (tgt := 14) hx hb d_Lines_isFull_10 (by decide) ?_
    obtain rfl := Option.some.inj hf
    exact W.zret (ty := .boolean) hx hb hr0 rfl (fun t ht _ => ⟨⟨rfl, by rw [ht]; exact hP⟩, hS.F ht⟩) hS.2.2 d_Lines_isFull_14 hlk
theorem c_x_Lines_isFull {l : Launch} {D : va_G} {cI cZ cJ : ClassId} {ao aa : Nat → Nat} {S : St} {z : Int32 × St} (hz : x_Lines_isFull S = some z) : Ct l y_Lines_isFull (.code y_Lines_isFull b_Lines_isFull 1 (some .boolean) :: gw) rm_x_Lines_isFull D [(cI, .int), (cZ, .boolean), (cJ, .long)] (xA ao aa) (xW cI cZ cJ ao aa) [.ref (ao 23)] S (some (.int z.1)) z.2 :=
  Ct_of (by decide) (fun p e s m args below meth c X => w_x_Lines_isFull X _ hz) (Nat.le_of_ble_eq_true rfl)
def x_Lines_add (S : St) (x0 : Int32) (x1 : Int32) (x2 : Int32) : Option (Int32 × St) :=
  (x_Lines_isFull S).bind fun q1 =>
  if q1.1 = 0 then
    gd (vin (gI q1.2 25) 60) <|
    gd (vin (gI (sA q1.2 20 (gI q1.2 25).toNatClampNeg x0) 25) 60) <|
    gd (vin (gI (sA (sA q1.2 20 (gI q1.2 25).toNatClampNeg x0) 21 (gI (sA q1.2 20 (gI q1.2 25).toNatClampNeg x0) 25).toNatClampNeg x1) 25) 60) <|
    some (((gI (sI (sA (sA (sA q1.2 20 (gI q1.2 25).toNatClampNeg x0) 21 (gI (sA q1.2 20 (gI q1.2 25).toNatClampNeg x0) 25).toNatClampNeg x1) 22 (gI (sA (sA q1.2 20 (gI q1.2 25).toNatClampNeg x0) 21 (gI (sA q1.2 20 (gI q1.2 25).toNatClampNeg x0) 25).toNatClampNeg x1) 25).toNatClampNeg (vp_nar .boolean x2)) 25 ((gI (sA (sA (sA q1.2 20 (gI q1.2 25).toNatClampNeg x0) 21 (gI (sA q1.2 20 (gI q1.2 25).toNatClampNeg x0) 25).toNatClampNeg x1) 22 (gI (sA (sA q1.2 20 (gI q1.2 25).toNatClampNeg x0) 21 (gI (sA q1.2 20 (gI q1.2 25).toNatClampNeg x0) 25).toNatClampNeg x1) 25).toNatClampNeg (vp_nar .boolean x2)) 25) + (1 : Int32))) 25) - (1 : Int32)), (sI (sA (sA (sA q1.2 20 (gI q1.2 25).toNatClampNeg x0) 21 (gI (sA q1.2 20 (gI q1.2 25).toNatClampNeg x0) 25).toNatClampNeg x1) 22 (gI (sA (sA q1.2 20 (gI q1.2 25).toNatClampNeg x0) 21 (gI (sA q1.2 20 (gI q1.2 25).toNatClampNeg x0) 25).toNatClampNeg x1) 25).toNatClampNeg (vp_nar .boolean x2)) 25 ((gI (sA (sA (sA q1.2 20 (gI q1.2 25).toNatClampNeg x0) 21 (gI (sA q1.2 20 (gI q1.2 25).toNatClampNeg x0) 25).toNatClampNeg x1) 22 (gI (sA (sA q1.2 20 (gI q1.2 25).toNatClampNeg x0) 21 (gI (sA q1.2 20 (gI q1.2 25).toNatClampNeg x0) 25).toNatClampNeg x1) 25).toNatClampNeg (vp_nar .boolean x2)) 25) + (1 : Int32))))
  else
    some ((-1 : Int32), q1.2)
def rm_x_Lines_add : Room := { frames := 1, cells := 0, slots := 0, locals := 20 }
theorem ok_x_Lines_add : CalV y_Lines_add b_Lines_add 4 (some .int) 3 rm_x_Lines_add := ⟨kc_Lines_add, ki_Lines_add, kl_Lines_add, ji_Lines, ⟨by decide, by decide, by decide +kernel⟩, rfl, rfl⟩
set_option maxHeartbeats 4000000 in
set_option maxRecDepth 100000 in
theorem w_x_Lines_add {z : Int32 × St} (X : Cx b_Lines_add 4 (some .int) R_Lines D [(cI, .int), (cZ, .boolean), (cJ, .long)] (xA ao aa) (xW cI cZ cJ ao aa) p s m args meth c) (S : St) (x0 : Int32) (x1 : Int32) (x2 : Int32) (hf : x_Lines_add S x0 x1 x2 = some z) : WX rm_x_Lines_add D (xA ao aa) (xW cI cZ cJ ao aa) p l e s m args below meth c (some (.int z.1)) z.2 0 [] 4 [(0, .ref (ao 23)), (1, .int x0), (2, .int x1), (3, .int x2)] S := by
  intro H locs ls hP hS hl
  obtain ⟨hx, hb, hr0, hml, hown, htg, hlk, hK, hN, hI⟩ := id X
  unfold x_Lines_add at hf
  refine lv_aload_n hx hb d_Lines_add_0 rfl (lv_at hl 0 rfl) ?_
  obtain ⟨q1, he, hf⟩ := ob_some hf
  refine cl_Vi (As := []) (rest := []) X (c_x_Lines_isFull he) ok_x_Lines_isFull k_m_Lines_35 (va_recv hK hP rfl xo_23) rfl rfl hl.1 (Nat.le_of_ble_eq_true rfl) d_Lines_add_1 ⟨by decide, by decide⟩ hP hS (fun H locs hP hS => ?_)
  refine lv_if_eq (tgt := 9) hx hb d_Lines_add_4 (by decide) (fun c => ?_) (fun c => ?_)
  · have hf := if_t hf c
    refine lv_aload_n hx hb d_Lines_add_9 rfl (lv_at hl 0 rfl) ?_
    refine va_get (D := D) (v := .ref (aa 20)) hx hb htg in_Lines hown hK hP 23 xo_23 rfl 0 (by decide) (htg _ k_f_Lines_9) (fun _ h9 => h9) rfl d_Lines_add_10 ?_
    refine lv_aload_n hx hb d_Lines_add_13 rfl (lv_at hl 0 rfl) ?_
    refine va_get (D := D) (v := .int (gI q1.2 25)) hx hb htg in_Lines hown hK hP 23 xo_23 rfl 6 (by decide) (htg _ k_f_Lines_31) (fun _ h9 => h9) rfl d_Lines_add_14 ?_
    refine lv_iload_n hx hb d_Lines_add_17 rfl (lv_at hl 1 rfl) ?_
    obtain ⟨hg, hf⟩ := gd_some hf
    refine va_iast hx hb hK hP (hI _) hS 48 0 xa_20 rfl (vin_in hg) d_Lines_add_18 (fun H locs hP _ hS => ?_)
    replace hP : va_P D classes (xW cI cZ cJ ao aa (sA q1.2 20 (gI q1.2 25).toNatClampNeg x0)) H := pw xt_20 hP
    refine lv_aload_n hx hb d_Lines_add_19 rfl (lv_at hl 0 rfl) ?_
    refine va_get (D := D) (v := .ref (aa 21)) hx hb htg in_Lines hown hK hP 23 xo_23 rfl 1 (by decide) (htg _ k_f_Lines_15) (fun _ h9 => h9) rfl d_Lines_add_20 ?_
    refine lv_aload_n hx hb d_Lines_add_23 rfl (lv_at hl 0 rfl) ?_
    refine va_get (D := D) (v := .int (gI (sA q1.2 20 (gI q1.2 25).toNatClampNeg x0) 25)) hx hb htg in_Lines hown hK hP 23 xo_23 rfl 6 (by decide) (htg _ k_f_Lines_31) (fun _ h9 => h9) rfl d_Lines_add_24 ?_
    refine lv_iload_n hx hb d_Lines_add_27 rfl (lv_at hl 2 rfl) ?_
    obtain ⟨hg, hf⟩ := gd_some hf
    refine va_iast hx hb hK hP (hI _) hS 49 0 xa_21 rfl (vin_in hg) d_Lines_add_28 (fun H locs hP _ hS => ?_)
    replace hP : va_P D classes (xW cI cZ cJ ao aa (sA (sA q1.2 20 (gI q1.2 25).toNatClampNeg x0) 21 (gI (sA q1.2 20 (gI q1.2 25).toNatClampNeg x0) 25).toNatClampNeg x1)) H := pw xt_21 hP
    refine lv_aload_n hx hb d_Lines_add_29 rfl (lv_at hl 0 rfl) ?_
    refine va_get (D := D) (v := .ref (aa 22)) hx hb htg in_Lines hown hK hP 23 xo_23 rfl 2 (by decide) (htg _ k_f_Lines_18) (fun _ h9 => h9) rfl d_Lines_add_30 ?_
    refine lv_aload_n hx hb d_Lines_add_33 rfl (lv_at hl 0 rfl) ?_
    refine va_get (D := D) (v := .int (gI (sA (sA q1.2 20 (gI q1.2 25).toNatClampNeg x0) 21 (gI (sA q1.2 20 (gI q1.2 25).toNatClampNeg x0) 25).toNatClampNeg x1) 25)) hx hb htg in_Lines hown hK hP 23 xo_23 rfl 6 (by decide) (htg _ k_f_Lines_31) (fun _ h9 => h9) rfl d_Lines_add_34 ?_
    refine lv_iload_n hx hb d_Lines_add_37 rfl (lv_at hl 3 rfl) ?_
    obtain ⟨hg, hf⟩ := gd_some hf
    refine va_zast hx hb hK hP (hI _) hS 50 1 xa_22 rfl (vin_in hg) d_Lines_add_38 (fun H locs hP _ hS => ?_)
    replace hP : va_P D classes (xW cI cZ cJ ao aa (sA (sA (sA q1.2 20 (gI q1.2 25).toNatClampNeg x0) 21 (gI (sA q1.2 20 (gI q1.2 25).toNatClampNeg x0) 25).toNatClampNeg x1) 22 (gI (sA (sA q1.2 20 (gI q1.2 25).toNatClampNeg x0) 21 (gI (sA q1.2 20 (gI q1.2 25).toNatClampNeg x0) 25).toNatClampNeg x1) 25).toNatClampNeg (vp_nar .boolean x2))) H := pw xt_22 hP
    refine lv_aload_n hx hb d_Lines_add_39 rfl (lv_at hl 0 rfl) ?_
    refine lv_dup hx hb d_Lines_add_40 rfl ?_
    refine va_get (D := D) (v := .int (gI (sA (sA (sA q1.2 20 (gI q1.2 25).toNatClampNeg x0) 21 (gI (sA q1.2 20 (gI q1.2 25).toNatClampNeg x0) 25).toNatClampNeg x1) 22 (gI (sA (sA q1.2 20 (gI q1.2 25).toNatClampNeg x0) 21 (gI (sA q1.2 20 (gI q1.2 25).toNatClampNeg x0) 25).toNatClampNeg x1) 25).toNatClampNeg (vp_nar .boolean x2)) 25)) hx hb htg in_Lines hown hK hP 23 xo_23 rfl 6 (by decide) (htg _ k_f_Lines_31) (fun _ h9 => h9) rfl d_Lines_add_41 ?_
    refine lv_iconst (v := 1) hx hb d_Lines_add_44 (by decide) ?_
    refine lv_iadd hx hb d_Lines_add_45 ?_
    refine va_put (D := D) (ty := .int) hx hb htg in_Lines t_Lines t_Lines_ok n_Lines hown hK hP (hI _) hS 23 xo_23 rfl 6 (by decide) (htg _ k_f_Lines_31) (fun _ h9 => h9) rfl (by decide +kernel) rfl rfl (by decide) d_Lines_add_46 (fun H locs hP _ hS => ?_)
    replace hP : va_P D classes (xW cI cZ cJ ao aa (sI (sA (sA (sA q1.2 20 (gI q1.2 25).toNatClampNeg x0) 21 (gI (sA q1.2 20 (gI q1.2 25).toNatClampNeg x0) 25).toNatClampNeg x1) 22 (gI (sA (sA q1.2 20 (gI q1.2 25).toNatClampNeg x0) 21 (gI (sA q1.2 20 (gI q1.2 25).toNatClampNeg x0) 25).toNatClampNeg x1) 25).toNatClampNeg (vp_nar .boolean x2)) 25 ((gI (sA (sA (sA q1.2 20 (gI q1.2 25).toNatClampNeg x0) 21 (gI (sA q1.2 20 (gI q1.2 25).toNatClampNeg x0) 25).toNatClampNeg x1) 22 (gI (sA (sA q1.2 20 (gI q1.2 25).toNatClampNeg x0) 21 (gI (sA q1.2 20 (gI q1.2 25).toNatClampNeg x0) 25).toNatClampNeg x1) 25).toNatClampNeg (vp_nar .boolean x2)) 25) + (1 : Int32)))) H := pw xs_23_count hP
    refine lv_aload_n hx hb d_Lines_add_49 rfl (lv_at hl 0 rfl) ?_
    refine va_get (D := D) (v := .int (gI (sI (sA (sA (sA q1.2 20 (gI q1.2 25).toNatClampNeg x0) 21 (gI (sA q1.2 20 (gI q1.2 25).toNatClampNeg x0) 25).toNatClampNeg x1) 22 (gI (sA (sA q1.2 20 (gI q1.2 25).toNatClampNeg x0) 21 (gI (sA q1.2 20 (gI q1.2 25).toNatClampNeg x0) 25).toNatClampNeg x1) 25).toNatClampNeg (vp_nar .boolean x2)) 25 ((gI (sA (sA (sA q1.2 20 (gI q1.2 25).toNatClampNeg x0) 21 (gI (sA q1.2 20 (gI q1.2 25).toNatClampNeg x0) 25).toNatClampNeg x1) 22 (gI (sA (sA q1.2 20 (gI q1.2 25).toNatClampNeg x0) 21 (gI (sA q1.2 20 (gI q1.2 25).toNatClampNeg x0) 25).toNatClampNeg x1) 25).toNatClampNeg (vp_nar .boolean x2)) 25) + (1 : Int32))) 25)) hx hb htg in_Lines hown hK hP 23 xo_23 rfl 6 (by decide) (htg _ k_f_Lines_31) (fun _ h9 => h9) rfl d_Lines_add_50 ?_
    refine lv_iconst (v := 1) hx hb d_Lines_add_53 (by decide) ?_
    refine lv_isub hx hb d_Lines_add_54 ?_
    obtain rfl := Option.some.inj hf
    exact W.iret hx hb hr0 (fun t ht _ => ⟨⟨rfl, by rw [ht]; exact hP⟩, hS.F ht⟩) hS.2.2 d_Lines_add_55 hlk
  · have hf := if_f hf c
    refine lv_iconst (v := (-1)) hx hb d_Lines_add_7 (by decide) ?_
    obtain rfl := Option.some.inj hf
    exact W.iret hx hb hr0 (fun t ht _ => ⟨⟨rfl, by rw [ht]; exact hP⟩, hS.F ht⟩) hS.2.2 d_Lines_add_8 hlk
theorem c_x_Lines_add {l : Launch} {D : va_G} {cI cZ cJ : ClassId} {ao aa : Nat → Nat} {S : St} {x0 : Int32} {x1 : Int32} {x2 : Int32} {z : Int32 × St} (hz : x_Lines_add S x0 x1 x2 = some z) : Ct l y_Lines_add (.code y_Lines_add b_Lines_add 4 (some .int) :: gw) rm_x_Lines_add D [(cI, .int), (cZ, .boolean), (cJ, .long)] (xA ao aa) (xW cI cZ cJ ao aa) [.ref (ao 23), .int x0, .int x1, .int x2] S (some (.int z.1)) z.2 :=
  Ct_of (by decide) (fun p e s m args below meth c X => w_x_Lines_add X _ _ _ _ hz) (Nat.le_of_ble_eq_true rfl)
def x_G_line (S : St) (x0 : Int32) (x1 : Int32) (x2 : Int32) : Option (Int32 × St) :=
  (x_Verbs_has S x0).bind fun q1 =>
  if q1.1 = 0 then
    some ((-101 : Int32), q1.2)
  else
    if x1 < (1 : Int32) then
      some ((-102 : Int32), q1.2)
    else
      if x1 ≤ (9999 : Int32) then
        (x_Lines_isFull q1.2).bind fun q2 =>
        if q2.1 = 0 then
          (x_Lines_add q2.2 x0 x1 x2).bind fun q3 =>
          some (q3.1, q3.2)
        else
          some ((-104 : Int32), q2.2)
      else
        some ((-102 : Int32), q1.2)
def rm_x_G_line : Room := { frames := 2, cells := 0, slots := 0, locals := 43 }
theorem ok_x_G_line : CalV y_G_line b_G_line 4 (some .int) 3 rm_x_G_line := ⟨kc_G_line, ki_G_line, kl_G_line, ji_G, ⟨by decide, by decide, by decide +kernel⟩, rfl, rfl⟩
set_option maxHeartbeats 4000000 in
set_option maxRecDepth 100000 in
theorem w_x_G_line {z : Int32 × St} (X : Cx b_G_line 4 (some .int) R_G D [(cI, .int), (cZ, .boolean), (cJ, .long)] (xA ao aa) (xW cI cZ cJ ao aa) p s m args meth c) (S : St) (x0 : Int32) (x1 : Int32) (x2 : Int32) (hf : x_G_line S x0 x1 x2 = some z) : WX rm_x_G_line D (xA ao aa) (xW cI cZ cJ ao aa) p l e s m args below meth c (some (.int z.1)) z.2 0 [] 4 [(0, .ref (ao 27)), (1, .int x0), (2, .int x1), (3, .int x2)] S := by
  intro H locs ls hP hS hl
  obtain ⟨hx, hb, hr0, hml, hown, htg, hlk, hK, hN, hI⟩ := id X
  unfold x_G_line at hf
  refine lv_aload_n hx hb d_G_line_0 rfl (lv_at hl 0 rfl) ?_
  refine va_get (D := D) (v := .ref (ao 22)) hx hb htg in_G hown hK hP 27 xo_27 rfl 1 (by decide) (htg _ k_f_G_19) (fun _ h9 => h9) rfl d_G_line_1 ?_
  refine lv_iload_n hx hb d_G_line_4 rfl (lv_at hl 1 rfl) ?_
  obtain ⟨q1, he, hf⟩ := ob_some hf
  refine cl_Vi (As := [.int x0]) (rest := []) X (c_x_Verbs_has he) ok_x_Verbs_has k_m_G_102 (va_recv hK hP rfl xo_22) rfl rfl hl.1 (Nat.le_of_ble_eq_true rfl) d_G_line_5 ⟨by decide, by decide⟩ hP hS (fun H locs hP hS => ?_)
  refine lv_if_ne (tgt := 14) hx hb d_G_line_8 (by decide) (fun c => ?_) (fun c => ?_)
  · have hf := if_f hf c
    refine lv_iload_n hx hb d_G_line_14 rfl (lv_at hl 2 rfl) ?_
    refine lv_iconst (v := 1) hx hb d_G_line_15 (by decide) ?_
    refine lv_icmp_lt (tgt := 26) hx hb d_G_line_16 (by decide) (fun c => ?_) (fun c => ?_)
    · have hf := if_t hf c
      refine lv_bipush (v := (-102)) hx hb d_G_line_26 (by decide) ?_
      obtain rfl := Option.some.inj hf
      exact W.iret hx hb hr0 (fun t ht _ => ⟨⟨rfl, by rw [ht]; exact hP⟩, hS.F ht⟩) hS.2.2 d_G_line_28 hlk
    · have hf := if_f hf c
      refine lv_iload_n hx hb d_G_line_19 rfl (lv_at hl 2 rfl) ?_
      refine lv_sipush (v := 9999) hx hb d_G_line_20 (by decide) ?_
      refine lv_icmp_le (tgt := 29) hx hb d_G_line_23 (by decide) (fun c => ?_) (fun c => ?_)
      · have hf := if_t hf c
        refine lv_aload_n hx hb d_G_line_29 rfl (lv_at hl 0 rfl) ?_
        refine va_get (D := D) (v := .ref (ao 23)) hx hb htg in_G hown hK hP 27 xo_27 rfl 2 (by decide) (htg _ k_f_G_26) (fun _ h9 => h9) rfl d_G_line_30 ?_
        obtain ⟨q2, he, hf⟩ := ob_some hf
        refine cl_Vi (As := []) (rest := []) X (c_x_Lines_isFull he) ok_x_Lines_isFull k_m_G_109 (va_recv hK hP rfl xo_23) rfl rfl hl.1 (Nat.le_of_ble_eq_true rfl) d_G_line_33 ⟨by decide, by decide⟩ hP hS (fun H locs hP hS => ?_)
        refine lv_if_eq (tgt := 42) hx hb d_G_line_36 (by decide) (fun c => ?_) (fun c => ?_)
        · have hf := if_t hf c
          refine lv_aload_n hx hb d_G_line_42 rfl (lv_at hl 0 rfl) ?_
          refine va_get (D := D) (v := .ref (ao 23)) hx hb htg in_G hown hK hP 27 xo_27 rfl 2 (by decide) (htg _ k_f_G_26) (fun _ h9 => h9) rfl d_G_line_43 ?_
          refine lv_iload_n hx hb d_G_line_46 rfl (lv_at hl 1 rfl) ?_
          refine lv_iload_n hx hb d_G_line_47 rfl (lv_at hl 2 rfl) ?_
          refine lv_iload_n hx hb d_G_line_48 rfl (lv_at hl 3 rfl) ?_
          obtain ⟨q3, he, hf⟩ := ob_some hf
          refine cl_Vi (As := [.int x0, .int x1, .int x2]) (rest := []) X (c_x_Lines_add he) ok_x_Lines_add k_m_G_110 (va_recv hK hP rfl xo_23) rfl rfl hl.1 (Nat.le_of_ble_eq_true rfl) d_G_line_49 ⟨by decide, by decide⟩ hP hS (fun H locs hP hS => ?_)
          obtain rfl := Option.some.inj hf
          exact W.iret hx hb hr0 (fun t ht _ => ⟨⟨rfl, by rw [ht]; exact hP⟩, hS.F ht⟩) hS.2.2 d_G_line_52 hlk
        · have hf := if_f hf c
          refine lv_bipush (v := (-104)) hx hb d_G_line_39 (by decide) ?_
          obtain rfl := Option.some.inj hf
          exact W.iret hx hb hr0 (fun t ht _ => ⟨⟨rfl, by rw [ht]; exact hP⟩, hS.F ht⟩) hS.2.2 d_G_line_41 hlk
      · have hf := if_f hf c
        refine lv_bipush (v := (-102)) hx hb d_G_line_26 (by decide) ?_
        obtain rfl := Option.some.inj hf
        exact W.iret hx hb hr0 (fun t ht _ => ⟨⟨rfl, by rw [ht]; exact hP⟩, hS.F ht⟩) hS.2.2 d_G_line_28 hlk
  · have hf := if_t hf c
    refine lv_bipush (v := (-101)) hx hb d_G_line_11 (by decide) ?_
    obtain rfl := Option.some.inj hf
    exact W.iret hx hb hr0 (fun t ht _ => ⟨⟨rfl, by rw [ht]; exact hP⟩, hS.F ht⟩) hS.2.2 d_G_line_13 hlk
theorem c_x_G_line {l : Launch} {D : va_G} {cI cZ cJ : ClassId} {ao aa : Nat → Nat} {S : St} {x0 : Int32} {x1 : Int32} {x2 : Int32} {z : Int32 × St} (hz : x_G_line S x0 x1 x2 = some z) : Ct l y_G_line (.code y_G_line b_G_line 4 (some .int) :: gw) rm_x_G_line D [(cI, .int), (cZ, .boolean), (cJ, .long)] (xA ao aa) (xW cI cZ cJ ao aa) [.ref (ao 27), .int x0, .int x1, .int x2] S (some (.int z.1)) z.2 :=
  Ct_of (by decide) (fun p e s m args below meth c X => w_x_G_line X _ _ _ _ hz) (Nat.le_of_ble_eq_true rfl)
def x_Lines_has (S : St) (x0 : Int32) : Option (Int32 × St) :=
  if x0 < 0 then
    some ((0 : Int32), S)
  else
    if (gI S 25) ≤ x0 then
      some ((0 : Int32), S)
    else
      some ((1 : Int32), S)
def rm_x_Lines_has : Room := { frames := 0, cells := 0, slots := 0, locals := 0 }
theorem ok_x_Lines_has : CalV y_Lines_has b_Lines_has 2 (some .boolean) 1 rm_x_Lines_has := ⟨kc_Lines_has, ki_Lines_has, kl_Lines_has, ji_Lines, ⟨by decide, by decide, by decide +kernel⟩, rfl, rfl⟩
set_option maxHeartbeats 4000000 in
set_option maxRecDepth 100000 in
theorem w_x_Lines_has {z : Int32 × St} (X : Cx b_Lines_has 2 (some .boolean) R_Lines D [(cI, .int), (cZ, .boolean), (cJ, .long)] (xA ao aa) (xW cI cZ cJ ao aa) p s m args meth c) (S : St) (x0 : Int32) (hf : x_Lines_has S x0 = some z) : WX rm_x_Lines_has D (xA ao aa) (xW cI cZ cJ ao aa) p l e s m args below meth c (some (.int z.1)) z.2 0 [] 2 [(0, .ref (ao 23)), (1, .int x0)] S := by
  intro H locs ls hP hS hl
  obtain ⟨hx, hb, hr0, hml, hown, htg, hlk, hK, hN, hI⟩ := id X
  unfold x_Lines_has at hf
  refine lv_iload_n hx hb d_Lines_has_0 rfl (lv_at hl 1 rfl) ?_
  refine lv_if_lt (tgt := 16) hx hb d_Lines_has_1 (by decide) (fun c => ?_) (fun c => ?_)
  · have hf := if_t hf c
    refine lv_iconst (v := 0) hx hb d_Lines_has_16 (by decide) ?_
    obtain rfl := Option.some.inj hf
    exact W.zret (ty := .boolean) hx hb hr0 rfl (fun t ht _ => ⟨⟨rfl, by rw [ht]; exact hP⟩, hS.F ht⟩) hS.2.2 d_Lines_has_17 hlk
  · have hf := if_f hf c
    refine lv_iload_n hx hb d_Lines_has_4 rfl (lv_at hl 1 rfl) ?_
    refine lv_aload_n hx hb d_Lines_has_5 rfl (lv_at hl 0 rfl) ?_
    refine va_get (D := D) (v := .int (gI S 25)) hx hb htg in_Lines hown hK hP 23 xo_23 rfl 6 (by decide) (htg _ k_f_Lines_31) (fun _ h9 => h9) rfl d_Lines_has_6 ?_
    refine lv_icmp_ge (tgt := 16) hx hb d_Lines_has_9 (by decide) (fun c => ?_) (fun c => ?_)
    · have hf := if_t hf c
      refine lv_iconst (v := 0) hx hb d_Lines_has_16 (by decide) ?_
      obtain rfl := Option.some.inj hf
      exact W.zret (ty := .boolean) hx hb hr0 rfl (fun t ht _ => ⟨⟨rfl, by rw [ht]; exact hP⟩, hS.F ht⟩) hS.2.2 d_Lines_has_17 hlk
    · have hf := if_f hf c
      refine lv_iconst (v := 1) hx hb d_Lines_has_12 (by decide) ?_
      refine lv_goto (tgt := 17) hx hb d_Lines_has_13 (by decide) ?_
      obtain rfl := Option.some.inj hf
      exact W.zret (ty := .boolean) hx hb hr0 rfl (fun t ht _ => ⟨⟨rfl, by rw [ht]; exact hP⟩, hS.F ht⟩) hS.2.2 d_Lines_has_17 hlk
theorem c_x_Lines_has {l : Launch} {D : va_G} {cI cZ cJ : ClassId} {ao aa : Nat → Nat} {S : St} {x0 : Int32} {z : Int32 × St} (hz : x_Lines_has S x0 = some z) : Ct l y_Lines_has (.code y_Lines_has b_Lines_has 2 (some .boolean) :: gw) rm_x_Lines_has D [(cI, .int), (cZ, .boolean), (cJ, .long)] (xA ao aa) (xW cI cZ cJ ao aa) [.ref (ao 23), .int x0] S (some (.int z.1)) z.2 :=
  Ct_of (by decide) (fun p e s m args below meth c X => w_x_Lines_has X _ _ hz) (Nat.le_of_ble_eq_true rfl)
def x_G_mayBeToken_b21 (S : St) (x1 : Int32) : Option (Int32 × St) :=
  (x_G_isPlainWord S x1).bind fun q1 =>
  gd (isB q1.1) <|
  some (q1.1, q1.2)
def x_G_mayBeToken (S : St) (x0 : Int32) (x1 : Int32) : Option (Int32 × St) :=
  if x0 < 0 then
    some ((0 : Int32), S)
  else
    if x0 ≤ (11 : Int32) then
      if x0 = 0 then
        x_G_mayBeToken_b21 S x1
      else
        if x0 = (1 : Int32) then
          x_G_mayBeToken_b21 S x1
        else
          if x0 = (11 : Int32) then
            if x1 < 0 then
              some ((0 : Int32), S)
            else
              if (9 : Int32) < x1 then
                some ((0 : Int32), S)
              else
                some ((1 : Int32), S)
          else
            some ((1 : Int32), S)
    else
      some ((0 : Int32), S)
def rm_x_G_mayBeToken : Room := { frames := 1, cells := 0, slots := 0, locals := 20 }
theorem ok_x_G_mayBeToken : CalS y_G_mayBeToken b_G_mayBeToken 2 (some .boolean) 2 rm_x_G_mayBeToken := ⟨kc_G_mayBeToken, ks_G_mayBeToken, ji_G, ⟨by decide, by decide, by decide +kernel⟩, rfl, rfl⟩
set_option maxHeartbeats 4000000 in
set_option maxRecDepth 100000 in
theorem w_x_G_mayBeToken_b21 {z : Int32 × St} (X : Cx b_G_mayBeToken 2 (some .boolean) R_G D [(cI, .int), (cZ, .boolean), (cJ, .long)] (xA ao aa) (xW cI cZ cJ ao aa) p s m args meth c) (S : St) (x1 : Int32) (hf : x_G_mayBeToken_b21 S x1 = some z) : WX rm_x_G_mayBeToken D (xA ao aa) (xW cI cZ cJ ao aa) p l e s m args below meth c (some (.int z.1)) z.2 21 [] 2 [(1, .int x1)] S := by
  intro H locs ls hP hS hl
  obtain ⟨hx, hb, hr0, hml, hown, htg, hlk, hK, hN, hI⟩ := id X
  unfold x_G_mayBeToken_b21 at hf
  refine lv_iload_n hx hb d_G_mayBeToken_21 rfl (lv_at hl 0 rfl) ?_
  obtain ⟨q1, he, hf⟩ := ob_some hf
  refine cl_Si (As := [.int x1]) (rest := []) X (c_x_G_isPlainWord he) ok_x_G_isPlainWord k_m_G_134 rfl rfl hl.1 (Nat.le_of_ble_eq_true rfl) d_G_mayBeToken_22 ⟨by decide, by decide⟩ hP hS (fun H locs hP hS => ?_)
  obtain ⟨hg, hf⟩ := gd_some hf
  obtain rfl := Option.some.inj hf
  exact W.zret (ty := .boolean) hx hb hr0 (isB_n hg) (fun t ht _ => ⟨⟨rfl, by rw [ht]; exact hP⟩, hS.F ht⟩) hS.2.2 d_G_mayBeToken_25 hlk
set_option maxHeartbeats 4000000 in
set_option maxRecDepth 100000 in
theorem w_x_G_mayBeToken {z : Int32 × St} (X : Cx b_G_mayBeToken 2 (some .boolean) R_G D [(cI, .int), (cZ, .boolean), (cJ, .long)] (xA ao aa) (xW cI cZ cJ ao aa) p s m args meth c) (S : St) (x0 : Int32) (x1 : Int32) (hf : x_G_mayBeToken S x0 x1 = some z) : WX rm_x_G_mayBeToken D (xA ao aa) (xW cI cZ cJ ao aa) p l e s m args below meth c (some (.int z.1)) z.2 0 [] 2 [(0, .int x0), (1, .int x1)] S := by
  intro H locs ls hP hS hl
  obtain ⟨hx, hb, hr0, hml, hown, htg, hlk, hK, hN, hI⟩ := id X
  unfold x_G_mayBeToken at hf
  refine lv_iload_n hx hb d_G_mayBeToken_0 rfl (lv_at hl 0 rfl) ?_
  refine lv_if_lt (tgt := 10) hx hb d_G_mayBeToken_1 (by decide) (fun c => ?_) (fun c => ?_)
  · have hf := if_t hf c
    refine lv_iconst (v := 0) hx hb d_G_mayBeToken_10 (by decide) ?_
    obtain rfl := Option.some.inj hf
    exact W.zret (ty := .boolean) hx hb hr0 rfl (fun t ht _ => ⟨⟨rfl, by rw [ht]; exact hP⟩, hS.F ht⟩) hS.2.2 d_G_mayBeToken_11 hlk
  · have hf := if_f hf c
    refine lv_iload_n hx hb d_G_mayBeToken_4 rfl (lv_at hl 0 rfl) ?_
    refine lv_bipush (v := 11) hx hb d_G_mayBeToken_5 (by decide) ?_
    refine lv_icmp_le (tgt := 12) hx hb d_G_mayBeToken_7 (by decide) (fun c => ?_) (fun c => ?_)
    · have hf := if_t hf c
      refine lv_iload_n hx hb d_G_mayBeToken_12 rfl (lv_at hl 0 rfl) ?_
      refine lv_if_eq (tgt := 21) hx hb d_G_mayBeToken_13 (by decide) (fun c => ?_) (fun c => ?_)
      · have hf := if_t hf c
        exact w_x_G_mayBeToken_b21 X _ _ hf H locs ls hP hS (lv_sub hl [1] rfl)
      · have hf := if_f hf c
        refine lv_iload_n hx hb d_G_mayBeToken_16 rfl (lv_at hl 0 rfl) ?_
        refine lv_iconst (v := 1) hx hb d_G_mayBeToken_17 (by decide) ?_
        refine lv_icmp_ne (tgt := 26) hx hb d_G_mayBeToken_18 (by decide) (fun c => ?_) (fun c => ?_)
        · have hf := if_f hf c
          refine lv_iload_n hx hb d_G_mayBeToken_26 rfl (lv_at hl 0 rfl) ?_
          refine lv_bipush (v := 11) hx hb d_G_mayBeToken_27 (by decide) ?_
          refine lv_icmp_ne (tgt := 42) hx hb d_G_mayBeToken_29 (by decide) (fun c => ?_) (fun c => ?_)
          · have hf := if_f hf c
            refine lv_iconst (v := 1) hx hb d_G_mayBeToken_42 (by decide) ?_
            refine lv_goto (tgt := 47) hx hb d_G_mayBeToken_43 (by decide) ?_
            obtain rfl := Option.some.inj hf
            exact W.zret (ty := .boolean) hx hb hr0 rfl (fun t ht _ => ⟨⟨rfl, by rw [ht]; exact hP⟩, hS.F ht⟩) hS.2.2 d_G_mayBeToken_47 hlk
          · have hf := if_t hf c
            refine lv_iload_n hx hb d_G_mayBeToken_32 rfl (lv_at hl 1 rfl) ?_
            refine lv_if_lt (tgt := 46) hx hb d_G_mayBeToken_33 (by decide) (fun c => ?_) (fun c => ?_)
            · have hf := if_t hf c
              refine lv_iconst (v := 0) hx hb d_G_mayBeToken_46 (by decide) ?_
              obtain rfl := Option.some.inj hf
              exact W.zret (ty := .boolean) hx hb hr0 rfl (fun t ht _ => ⟨⟨rfl, by rw [ht]; exact hP⟩, hS.F ht⟩) hS.2.2 d_G_mayBeToken_47 hlk
            · have hf := if_f hf c
              refine lv_iload_n hx hb d_G_mayBeToken_36 rfl (lv_at hl 1 rfl) ?_
              refine lv_bipush (v := 9) hx hb d_G_mayBeToken_37 (by decide) ?_
              refine lv_icmp_gt (tgt := 46) hx hb d_G_mayBeToken_39 (by decide) (fun c => ?_) (fun c => ?_)
              · have hf := if_t hf c
                refine lv_iconst (v := 0) hx hb d_G_mayBeToken_46 (by decide) ?_
                obtain rfl := Option.some.inj hf
                exact W.zret (ty := .boolean) hx hb hr0 rfl (fun t ht _ => ⟨⟨rfl, by rw [ht]; exact hP⟩, hS.F ht⟩) hS.2.2 d_G_mayBeToken_47 hlk
              · have hf := if_f hf c
                refine lv_iconst (v := 1) hx hb d_G_mayBeToken_42 (by decide) ?_
                refine lv_goto (tgt := 47) hx hb d_G_mayBeToken_43 (by decide) ?_
                obtain rfl := Option.some.inj hf
                exact W.zret (ty := .boolean) hx hb hr0 rfl (fun t ht _ => ⟨⟨rfl, by rw [ht]; exact hP⟩, hS.F ht⟩) hS.2.2 d_G_mayBeToken_47 hlk
        · have hf := if_t hf c
          exact w_x_G_mayBeToken_b21 X _ _ hf H locs ls hP hS (lv_sub hl [1] rfl)
    · have hf := if_f hf c
      refine lv_iconst (v := 0) hx hb d_G_mayBeToken_10 (by decide) ?_
      obtain rfl := Option.some.inj hf
      exact W.zret (ty := .boolean) hx hb hr0 rfl (fun t ht _ => ⟨⟨rfl, by rw [ht]; exact hP⟩, hS.F ht⟩) hS.2.2 d_G_mayBeToken_11 hlk
theorem c_x_G_mayBeToken {l : Launch} {D : va_G} {cI cZ cJ : ClassId} {ao aa : Nat → Nat} {S : St} {x0 : Int32} {x1 : Int32} {z : Int32 × St} (hz : x_G_mayBeToken S x0 x1 = some z) : Ct l y_G_mayBeToken (.code y_G_mayBeToken b_G_mayBeToken 2 (some .boolean) :: gw) rm_x_G_mayBeToken D [(cI, .int), (cZ, .boolean), (cJ, .long)] (xA ao aa) (xW cI cZ cJ ao aa) [.int x0, .int x1] S (some (.int z.1)) z.2 :=
  Ct_of (by decide) (fun p e s m args below meth c X => w_x_G_mayBeToken X _ _ _ hz) (Nat.le_of_ble_eq_true rfl)
def x_Lines_kindsOf (S : St) (x0 : Int32) : Option (Int32 × St) :=
  (x_Lines_has S x0).bind fun q1 =>
  if q1.1 = 0 then
    some ((0 : Int32), q1.2)
  else
    gd (vin x0 60) <|
    some ((gA q1.2 23 x0.toNatClampNeg), q1.2)
def rm_x_Lines_kindsOf : Room := { frames := 1, cells := 0, slots := 0, locals := 21 }
theorem ok_x_Lines_kindsOf : CalV y_Lines_kindsOf b_Lines_kindsOf 2 (some .int) 1 rm_x_Lines_kindsOf := ⟨kc_Lines_kindsOf, ki_Lines_kindsOf, kl_Lines_kindsOf, ji_Lines, ⟨by decide, by decide, by decide +kernel⟩, rfl, rfl⟩
set_option maxHeartbeats 4000000 in
set_option maxRecDepth 100000 in
theorem w_x_Lines_kindsOf {z : Int32 × St} (X : Cx b_Lines_kindsOf 2 (some .int) R_Lines D [(cI, .int), (cZ, .boolean), (cJ, .long)] (xA ao aa) (xW cI cZ cJ ao aa) p s m args meth c) (S : St) (x0 : Int32) (hf : x_Lines_kindsOf S x0 = some z) : WX rm_x_Lines_kindsOf D (xA ao aa) (xW cI cZ cJ ao aa) p l e s m args below meth c (some (.int z.1)) z.2 0 [] 2 [(0, .ref (ao 23)), (1, .int x0)] S := by
  intro H locs ls hP hS hl
  obtain ⟨hx, hb, hr0, hml, hown, htg, hlk, hK, hN, hI⟩ := id X
  unfold x_Lines_kindsOf at hf
  refine lv_aload_n hx hb d_Lines_kindsOf_0 rfl (lv_at hl 0 rfl) ?_
  refine lv_iload_n hx hb d_Lines_kindsOf_1 rfl (lv_at hl 1 rfl) ?_
  obtain ⟨q1, he, hf⟩ := ob_some hf
  refine cl_Vi (As := [.int x0]) (rest := []) X (c_x_Lines_has he) ok_x_Lines_has k_m_Lines_39 (va_recv hK hP rfl xo_23) rfl rfl hl.1 (Nat.le_of_ble_eq_true rfl) d_Lines_kindsOf_2 ⟨by decide, by decide⟩ hP hS (fun H locs hP hS => ?_)
  refine lv_if_eq (tgt := 17) hx hb d_Lines_kindsOf_5 (by decide) (fun c => ?_) (fun c => ?_)
  · have hf := if_t hf c
    refine lv_iconst (v := 0) hx hb d_Lines_kindsOf_17 (by decide) ?_
    obtain rfl := Option.some.inj hf
    exact W.iret hx hb hr0 (fun t ht _ => ⟨⟨rfl, by rw [ht]; exact hP⟩, hS.F ht⟩) hS.2.2 d_Lines_kindsOf_18 hlk
  · have hf := if_f hf c
    refine lv_aload_n hx hb d_Lines_kindsOf_8 rfl (lv_at hl 0 rfl) ?_
    refine va_get (D := D) (v := .ref (aa 23)) hx hb htg in_Lines hown hK hP 23 xo_23 rfl 3 (by decide) (htg _ k_f_Lines_22) (fun _ h9 => h9) rfl d_Lines_kindsOf_9 ?_
    refine lv_iload_n hx hb d_Lines_kindsOf_12 rfl (lv_at hl 1 rfl) ?_
    obtain ⟨hg, hf⟩ := gd_some hf
    refine va_iald hx hb hK hP 51 0 xa_23 rfl (vin_in hg) d_Lines_kindsOf_13 ?_
    refine lv_goto (tgt := 18) hx hb d_Lines_kindsOf_14 (by decide) ?_
    obtain rfl := Option.some.inj hf
    exact W.iret hx hb hr0 (fun t ht _ => ⟨⟨rfl, by rw [ht]; exact hP⟩, hS.F ht⟩) hS.2.2 d_Lines_kindsOf_18 hlk
theorem c_x_Lines_kindsOf {l : Launch} {D : va_G} {cI cZ cJ : ClassId} {ao aa : Nat → Nat} {S : St} {x0 : Int32} {z : Int32 × St} (hz : x_Lines_kindsOf S x0 = some z) : Ct l y_Lines_kindsOf (.code y_Lines_kindsOf b_Lines_kindsOf 2 (some .int) :: gw) rm_x_Lines_kindsOf D [(cI, .int), (cZ, .boolean), (cJ, .long)] (xA ao aa) (xW cI cZ cJ ao aa) [.ref (ao 23), .int x0] S (some (.int z.1)) z.2 :=
  Ct_of (by decide) (fun p e s m args below meth c X => w_x_Lines_kindsOf X _ _ hz) (Nat.le_of_ble_eq_true rfl)
def x_Lines_kindAt (S : St) (x0 : Int32) (x1 : Int32) : Option (Int32 × St) :=
  (x_Lines_has S x0).bind fun q1 =>
  if q1.1 = 0 then
    some ((-1 : Int32), q1.2)
  else
    if x1 < 0 then
      some ((-1 : Int32), q1.2)
    else
      gd (vin x0 60) <|
      if (gA q1.2 23 x0.toNatClampNeg) ≤ x1 then
        some ((-1 : Int32), q1.2)
      else
        gd (vin ((x0 * (8 : Int32)) + x1) 480) <|
        some ((gA q1.2 24 ((x0 * (8 : Int32)) + x1).toNatClampNeg), q1.2)
def rm_x_Lines_kindAt : Room := { frames := 1, cells := 0, slots := 0, locals := 21 }
theorem ok_x_Lines_kindAt : CalV y_Lines_kindAt b_Lines_kindAt 3 (some .int) 2 rm_x_Lines_kindAt := ⟨kc_Lines_kindAt, ki_Lines_kindAt, kl_Lines_kindAt, ji_Lines, ⟨by decide, by decide, by decide +kernel⟩, rfl, rfl⟩
set_option maxHeartbeats 4000000 in
set_option maxRecDepth 100000 in
theorem w_x_Lines_kindAt {z : Int32 × St} (X : Cx b_Lines_kindAt 3 (some .int) R_Lines D [(cI, .int), (cZ, .boolean), (cJ, .long)] (xA ao aa) (xW cI cZ cJ ao aa) p s m args meth c) (S : St) (x0 : Int32) (x1 : Int32) (hf : x_Lines_kindAt S x0 x1 = some z) : WX rm_x_Lines_kindAt D (xA ao aa) (xW cI cZ cJ ao aa) p l e s m args below meth c (some (.int z.1)) z.2 0 [] 3 [(0, .ref (ao 23)), (1, .int x0), (2, .int x1)] S := by
  intro H locs ls hP hS hl
  obtain ⟨hx, hb, hr0, hml, hown, htg, hlk, hK, hN, hI⟩ := id X
  unfold x_Lines_kindAt at hf
  refine lv_aload_n hx hb d_Lines_kindAt_0 rfl (lv_at hl 0 rfl) ?_
  refine lv_iload_n hx hb d_Lines_kindAt_1 rfl (lv_at hl 1 rfl) ?_
  obtain ⟨q1, he, hf⟩ := ob_some hf
  refine cl_Vi (As := [.int x0]) (rest := []) X (c_x_Lines_has he) ok_x_Lines_has k_m_Lines_39 (va_recv hK hP rfl xo_23) rfl rfl hl.1 (Nat.le_of_ble_eq_true rfl) d_Lines_kindAt_2 ⟨by decide, by decide⟩ hP hS (fun H locs hP hS => ?_)
  refine lv_if_eq (tgt := 36) hx hb d_Lines_kindAt_5 (by decide) (fun c => ?_) (fun c => ?_)
  · have hf := if_t hf c
    refine lv_iconst (v := (-1)) hx hb d_Lines_kindAt_36 (by decide) ?_
    obtain rfl := Option.some.inj hf
    exact W.iret hx hb hr0 (fun t ht _ => ⟨⟨rfl, by rw [ht]; exact hP⟩, hS.F ht⟩) hS.2.2 d_Lines_kindAt_37 hlk
  · have hf := if_f hf c
    refine lv_iload_n hx hb d_Lines_kindAt_8 rfl (lv_at hl 2 rfl) ?_
    refine lv_if_lt (tgt := 36) hx hb d_Lines_kindAt_9 (by decide) (fun c => ?_) (fun c => ?_)
    · have hf := if_t hf c
      refine lv_iconst (v := (-1)) hx hb d_Lines_kindAt_36 (by decide) ?_
      obtain rfl := Option.some.inj hf
      exact W.iret hx hb hr0 (fun t ht _ => ⟨⟨rfl, by rw [ht]; exact hP⟩, hS.F ht⟩) hS.2.2 d_Lines_kindAt_37 hlk
    · have hf := if_f hf c
      refine lv_iload_n hx hb d_Lines_kindAt_12 rfl (lv_at hl 2 rfl) ?_
      refine lv_aload_n hx hb d_Lines_kindAt_13 rfl (lv_at hl 0 rfl) ?_
      refine va_get (D := D) (v := .ref (aa 23)) hx hb htg in_Lines hown hK hP 23 xo_23 rfl 3 (by decide) (htg _ k_f_Lines_22) (fun _ h9 => h9) rfl d_Lines_kindAt_14 ?_
      refine lv_iload_n hx hb d_Lines_kindAt_17 rfl (lv_at hl 1 rfl) ?_
      obtain ⟨hg, hf⟩ := gd_some hf
      refine va_iald hx hb hK hP 51 0 xa_23 rfl (vin_in hg) d_Lines_kindAt_18 ?_
      refine lv_icmp_ge (tgt := 36) hx hb d_Lines_kindAt_19 (by decide) (fun c => ?_) (fun c => ?_)
      · have hf := if_t hf c
        refine lv_iconst (v := (-1)) hx hb d_Lines_kindAt_36 (by decide) ?_
        obtain rfl := Option.some.inj hf
        exact W.iret hx hb hr0 (fun t ht _ => ⟨⟨rfl, by rw [ht]; exact hP⟩, hS.F ht⟩) hS.2.2 d_Lines_kindAt_37 hlk
      · have hf := if_f hf c
        refine lv_aload_n hx hb d_Lines_kindAt_22 rfl (lv_at hl 0 rfl) ?_
        refine va_get (D := D) (v := .ref (aa 24)) hx hb htg in_Lines hown hK hP 23 xo_23 rfl 4 (by decide) (htg _ k_f_Lines_25) (fun _ h9 => h9) rfl d_Lines_kindAt_23 ?_
        refine lv_iload_n hx hb d_Lines_kindAt_26 rfl (lv_at hl 1 rfl) ?_
        refine lv_bipush (v := 8) hx hb d_Lines_kindAt_27 (by decide) ?_
        refine lv_imul hx hb d_Lines_kindAt_29 ?_
        refine lv_iload_n hx hb d_Lines_kindAt_30 rfl (lv_at hl 2 rfl) ?_
        refine lv_iadd hx hb d_Lines_kindAt_31 ?_
        obtain ⟨hg, hf⟩ := gd_some hf
        refine va_iald hx hb hK hP 52 0 xa_24 rfl (vin_in hg) d_Lines_kindAt_32 ?_
        refine lv_goto (tgt := 37) hx hb d_Lines_kindAt_33 (by decide) ?_
        obtain rfl := Option.some.inj hf
        exact W.iret hx hb hr0 (fun t ht _ => ⟨⟨rfl, by rw [ht]; exact hP⟩, hS.F ht⟩) hS.2.2 d_Lines_kindAt_37 hlk
theorem c_x_Lines_kindAt {l : Launch} {D : va_G} {cI cZ cJ : ClassId} {ao aa : Nat → Nat} {S : St} {x0 : Int32} {x1 : Int32} {z : Int32 × St} (hz : x_Lines_kindAt S x0 x1 = some z) : Ct l y_Lines_kindAt (.code y_Lines_kindAt b_Lines_kindAt 3 (some .int) :: gw) rm_x_Lines_kindAt D [(cI, .int), (cZ, .boolean), (cJ, .long)] (xA ao aa) (xW cI cZ cJ ao aa) [.ref (ao 23), .int x0, .int x1] S (some (.int z.1)) z.2 :=
  Ct_of (by decide) (fun p e s m args below meth c X => w_x_Lines_kindAt X _ _ _ hz) (Nat.le_of_ble_eq_true rfl)
def x_G_isSlot (S : St) (x0 : Int32) : Option (Int32 × St) :=
  if x0 < (2 : Int32) then
    some ((0 : Int32), S)
  else
    if (11 : Int32) < x0 then
      some ((0 : Int32), S)
    else
      some ((1 : Int32), S)
def rm_x_G_isSlot : Room := { frames := 0, cells := 0, slots := 0, locals := 0 }
theorem ok_x_G_isSlot : CalS y_G_isSlot b_G_isSlot 1 (some .boolean) 1 rm_x_G_isSlot := ⟨kc_G_isSlot, ks_G_isSlot, ji_G, ⟨by decide, by decide, by decide +kernel⟩, rfl, rfl⟩
set_option maxHeartbeats 4000000 in
set_option maxRecDepth 100000 in
theorem w_x_G_isSlot {z : Int32 × St} (X : Cx b_G_isSlot 1 (some .boolean) R_G D [(cI, .int), (cZ, .boolean), (cJ, .long)] (xA ao aa) (xW cI cZ cJ ao aa) p s m args meth c) (S : St) (x0 : Int32) (hf : x_G_isSlot S x0 = some z) : WX rm_x_G_isSlot D (xA ao aa) (xW cI cZ cJ ao aa) p l e s m args below meth c (some (.int z.1)) z.2 0 [] 1 [(0, .int x0)] S := by
  intro H locs ls hP hS hl
  obtain ⟨hx, hb, hr0, hml, hown, htg, hlk, hK, hN, hI⟩ := id X
  unfold x_G_isSlot at hf
  refine lv_iload_n hx hb d_G_isSlot_0 rfl (lv_at hl 0 rfl) ?_
  refine lv_iconst (v := 2) hx hb d_G_isSlot_1 (by decide) ?_
  refine lv_icmp_lt (tgt := 15) hx hb d_G_isSlot_2 (by decide) (fun c => ?_) (fun c => ?_)
  · have hf := if_t hf c
    refine lv_iconst (v := 0) hx hb d_G_isSlot_15 (by decide) ?_
    obtain rfl := Option.some.inj hf
    exact W.zret (ty := .boolean) hx hb hr0 rfl (fun t ht _ => ⟨⟨rfl, by rw [ht]; exact hP⟩, hS.F ht⟩) hS.2.2 d_G_isSlot_16 hlk
  · have hf := if_f hf c
    refine lv_iload_n hx hb d_G_isSlot_5 rfl (lv_at hl 0 rfl) ?_
    refine lv_bipush (v := 11) hx hb d_G_isSlot_6 (by decide) ?_
    refine lv_icmp_gt (tgt := 15) hx hb d_G_isSlot_8 (by decide) (fun c => ?_) (fun c => ?_)
    · have hf := if_t hf c
      refine lv_iconst (v := 0) hx hb d_G_isSlot_15 (by decide) ?_
      obtain rfl := Option.some.inj hf
      exact W.zret (ty := .boolean) hx hb hr0 rfl (fun t ht _ => ⟨⟨rfl, by rw [ht]; exact hP⟩, hS.F ht⟩) hS.2.2 d_G_isSlot_16 hlk
    · have hf := if_f hf c
      refine lv_iconst (v := 1) hx hb d_G_isSlot_11 (by decide) ?_
      refine lv_goto (tgt := 16) hx hb d_G_isSlot_12 (by decide) ?_
      obtain rfl := Option.some.inj hf
      exact W.zret (ty := .boolean) hx hb hr0 rfl (fun t ht _ => ⟨⟨rfl, by rw [ht]; exact hP⟩, hS.F ht⟩) hS.2.2 d_G_isSlot_16 hlk
theorem c_x_G_isSlot {l : Launch} {D : va_G} {cI cZ cJ : ClassId} {ao aa : Nat → Nat} {S : St} {x0 : Int32} {z : Int32 × St} (hz : x_G_isSlot S x0 = some z) : Ct l y_G_isSlot (.code y_G_isSlot b_G_isSlot 1 (some .boolean) :: gw) rm_x_G_isSlot D [(cI, .int), (cZ, .boolean), (cJ, .long)] (xA ao aa) (xW cI cZ cJ ao aa) [.int x0] S (some (.int z.1)) z.2 :=
  Ct_of (by decide) (fun p e s m args below meth c X => w_x_G_isSlot X _ _ hz) (Nat.le_of_ble_eq_true rfl)
def x_Lines_slotsOf_b28 (k4 : St → Int32 → Int32 → Int32 → Option (Int32 × St)) (S : St) (x1 : Int32) (x2 : Int32) (x3 : Int32) : Option (Int32 × St) :=
  k4 S x1 x2 (x3 + 1)
def x_Lines_slotsOf_b4_f (k4 : St → Int32 → Int32 → Int32 → Option (Int32 × St)) (S : St) (x1 : Int32) (x2 : Int32) (x3 : Int32) : Option (Int32 × St) :=
  (x_Lines_kindsOf S x1).bind fun q1 =>
  if q1.1 ≤ x3 then
    some (x2, q1.2)
  else
    (x_Lines_kindAt q1.2 x1 x3).bind fun q2 =>
    (x_G_isSlot q2.2 q2.1).bind fun q3 =>
    if q3.1 = 0 then
      x_Lines_slotsOf_b28 k4 q3.2 x1 x2 x3
    else
      x_Lines_slotsOf_b28 k4 q3.2 x1 (x2 + 1) x3
def x_Lines_slotsOf_b4 : Nat → St → Int32 → Int32 → Int32 → Option (Int32 × St)
  | 0, _, _, _, _ => none
  | n + 1, S, x1, x2, x3 => x_Lines_slotsOf_b4_f (x_Lines_slotsOf_b4 n) S x1 x2 x3
def x_Lines_slotsOf (S : St) (x0 : Int32) : Option (Int32 × St) :=
  x_Lines_slotsOf_b4 fu S x0 (0 : Int32) (0 : Int32)
def rm_x_Lines_slotsOf : Room := { frames := 2, cells := 0, slots := 0, locals := 43 }
theorem ok_x_Lines_slotsOf : CalV y_Lines_slotsOf b_Lines_slotsOf 4 (some .int) 1 rm_x_Lines_slotsOf := ⟨kc_Lines_slotsOf, ki_Lines_slotsOf, kl_Lines_slotsOf, ji_Lines, ⟨by decide, by decide, by decide +kernel⟩, rfl, rfl⟩
set_option maxHeartbeats 4000000 in
set_option maxRecDepth 100000 in
theorem w_x_Lines_slotsOf_b28 {z : Int32 × St} (X : Cx b_Lines_slotsOf 4 (some .int) R_Lines D [(cI, .int), (cZ, .boolean), (cJ, .long)] (xA ao aa) (xW cI cZ cJ ao aa) p s m args meth c) {k4 : St → Int32 → Int32 → Int32 → Option (Int32 × St)} (hk4 : ∀ (S : St) (x1 : Int32) (x2 : Int32) (x3 : Int32), k4 S x1 x2 x3 = some z → WX rm_x_Lines_slotsOf D (xA ao aa) (xW cI cZ cJ ao aa) p l e s m args below meth c (some (.int z.1)) z.2 4 [] 4 [(0, .ref (ao 23)), (1, .int x1), (2, .int x2), (3, .int x3)] S) (S : St) (x1 : Int32) (x2 : Int32) (x3 : Int32) (hf : x_Lines_slotsOf_b28 k4 S x1 x2 x3 = some z) : WX rm_x_Lines_slotsOf D (xA ao aa) (xW cI cZ cJ ao aa) p l e s m args below meth c (some (.int z.1)) z.2 28 [] 4 [(0, .ref (ao 23)), (1, .int x1), (2, .int x2), (3, .int x3)] S := by
  intro H locs ls hP hS hl
  obtain ⟨hx, hb, hr0, hml, hown, htg, hlk, hK, hN, hI⟩ := id X
  unfold x_Lines_slotsOf_b28 at hf
  refine lv_iinc (v := (x3 + 1)) (lv' := [(3, .int (x3 + 1)), (0, .ref (ao 23)), (1, .int x1), (2, .int x2)]) hx hb d_Lines_slotsOf_28 hl (k := 3) rfl rfl (by decide) rfl (fun ls hl => ?_)
  refine lv_goto (tgt := 4) hx hb d_Lines_slotsOf_31 (by decide) ?_
  exact hk4 _ _ _ _ hf H locs ls hP hS (lv_sub hl [1, 2, 3, 0] rfl)
set_option maxHeartbeats 4000000 in
set_option maxRecDepth 100000 in
theorem w_x_Lines_slotsOf_b4_f {z : Int32 × St} (X : Cx b_Lines_slotsOf 4 (some .int) R_Lines D [(cI, .int), (cZ, .boolean), (cJ, .long)] (xA ao aa) (xW cI cZ cJ ao aa) p s m args meth c) {k4 : St → Int32 → Int32 → Int32 → Option (Int32 × St)} (hk4 : ∀ (S : St) (x1 : Int32) (x2 : Int32) (x3 : Int32), k4 S x1 x2 x3 = some z → WX rm_x_Lines_slotsOf D (xA ao aa) (xW cI cZ cJ ao aa) p l e s m args below meth c (some (.int z.1)) z.2 4 [] 4 [(0, .ref (ao 23)), (1, .int x1), (2, .int x2), (3, .int x3)] S) (S : St) (x1 : Int32) (x2 : Int32) (x3 : Int32) (hf : x_Lines_slotsOf_b4_f k4 S x1 x2 x3 = some z) : WX rm_x_Lines_slotsOf D (xA ao aa) (xW cI cZ cJ ao aa) p l e s m args below meth c (some (.int z.1)) z.2 4 [] 4 [(0, .ref (ao 23)), (1, .int x1), (2, .int x2), (3, .int x3)] S := by
  intro H locs ls hP hS hl
  obtain ⟨hx, hb, hr0, hml, hown, htg, hlk, hK, hN, hI⟩ := id X
  unfold x_Lines_slotsOf_b4_f at hf
  refine lv_iload_n hx hb d_Lines_slotsOf_4 rfl (lv_at hl 3 rfl) ?_
  refine lv_aload_n hx hb d_Lines_slotsOf_5 rfl (lv_at hl 0 rfl) ?_
  refine lv_iload_n hx hb d_Lines_slotsOf_6 rfl (lv_at hl 1 rfl) ?_
  obtain ⟨q1, he, hf⟩ := ob_some hf
  refine cl_Vi (As := [.int x1]) (rest := [.int x3]) X (c_x_Lines_kindsOf he) ok_x_Lines_kindsOf k_m_Lines_43 (va_recv hK hP rfl xo_23) rfl rfl hl.1 (Nat.le_of_ble_eq_true rfl) d_Lines_slotsOf_7 ⟨by decide, by decide⟩ hP hS (fun H locs hP hS => ?_)
  refine lv_icmp_ge (tgt := 34) hx hb d_Lines_slotsOf_10 (by decide) (fun c => ?_) (fun c => ?_)
  · have hf := if_t hf c
    refine lv_iload_n hx hb d_Lines_slotsOf_34 rfl (lv_at hl 2 rfl) ?_
    obtain rfl := Option.some.inj hf
    exact W.iret hx hb hr0 (fun t ht _ => ⟨⟨rfl, by rw [ht]; exact hP⟩, hS.F ht⟩) hS.2.2 d_Lines_slotsOf_35 hlk
  · have hf := if_f hf c
    refine lv_aload_n hx hb d_Lines_slotsOf_13 rfl (lv_at hl 0 rfl) ?_
    refine lv_iload_n hx hb d_Lines_slotsOf_14 rfl (lv_at hl 1 rfl) ?_
    refine lv_iload_n hx hb d_Lines_slotsOf_15 rfl (lv_at hl 3 rfl) ?_
    obtain ⟨q2, he, hf⟩ := ob_some hf
    refine cl_Vi (As := [.int x1, .int x3]) (rest := []) X (c_x_Lines_kindAt he) ok_x_Lines_kindAt k_m_Lines_47 (va_recv hK hP rfl xo_23) rfl rfl hl.1 (Nat.le_of_ble_eq_true rfl) d_Lines_slotsOf_16 ⟨by decide, by decide⟩ hP hS (fun H locs hP hS => ?_)
    obtain ⟨q3, he, hf⟩ := ob_some hf
    refine cl_Ti (As := [.int q2.1]) (rest := []) X (c_x_G_isSlot he) ok_x_G_isSlot k_mn_Lines_51 rfl rfl hl.1 (Nat.le_of_ble_eq_true rfl) d_Lines_slotsOf_19 ⟨by decide, by decide⟩ hP hS (fun H locs hP hS => ?_)
    refine lv_if_eq (tgt := 28) hx hb d_Lines_slotsOf_22 (by decide) (fun c => ?_) (fun c => ?_)
    · have hf := if_t hf c
      exact w_x_Lines_slotsOf_b28 X hk4 _ _ _ _ hf H locs ls hP hS (lv_sub hl [0, 1, 2, 3] rfl)
    · have hf := if_f hf c
      refine lv_iinc (v := (x2 + 1)) (lv' := [(2, .int (x2 + 1)), (0, .ref (ao 23)), (1, .int x1), (3, .int x3)]) hx hb d_Lines_slotsOf_25 hl (k := 2) rfl rfl (by decide) rfl (fun ls hl => ?_)
      exact w_x_Lines_slotsOf_b28 X hk4 _ _ _ _ hf H locs ls hP hS (lv_sub hl [1, 2, 0, 3] rfl)
theorem w_x_Lines_slotsOf_b4 {z : Int32 × St} (X : Cx b_Lines_slotsOf 4 (some .int) R_Lines D [(cI, .int), (cZ, .boolean), (cJ, .long)] (xA ao aa) (xW cI cZ cJ ao aa) p s m args meth c) : ∀ (n : Nat) (S : St) (x1 : Int32) (x2 : Int32) (x3 : Int32), x_Lines_slotsOf_b4 n S x1 x2 x3 = some z → WX rm_x_Lines_slotsOf D (xA ao aa) (xW cI cZ cJ ao aa) p l e s m args below meth c (some (.int z.1)) z.2 4 [] 4 [(0, .ref (ao 23)), (1, .int x1), (2, .int x2), (3, .int x3)] S
  | 0, _, _, _, _, hf => ns hf
  | n + 1, _, _, _, _, hf => w_x_Lines_slotsOf_b4_f X (w_x_Lines_slotsOf_b4 X n) _ _ _ _ hf
set_option maxHeartbeats 4000000 in
set_option maxRecDepth 100000 in
theorem w_x_Lines_slotsOf {z : Int32 × St} (X : Cx b_Lines_slotsOf 4 (some .int) R_Lines D [(cI, .int), (cZ, .boolean), (cJ, .long)] (xA ao aa) (xW cI cZ cJ ao aa) p s m args meth c) (S : St) (x0 : Int32) (hf : x_Lines_slotsOf S x0 = some z) : WX rm_x_Lines_slotsOf D (xA ao aa) (xW cI cZ cJ ao aa) p l e s m args below meth c (some (.int z.1)) z.2 0 [] 4 [(0, .ref (ao 23)), (1, .int x0)] S := by
  intro H locs ls hP hS hl
  obtain ⟨hx, hb, hr0, hml, hown, htg, hlk, hK, hN, hI⟩ := id X
  unfold x_Lines_slotsOf at hf
  refine lv_iconst (v := 0) hx hb d_Lines_slotsOf_0 (by decide) ?_
  refine lv_istore_n (lv' := [(2, .int (0 : Int32)), (0, .ref (ao 23)), (1, .int x0)]) hx hb d_Lines_slotsOf_1 rfl hl (by decide) rfl (fun ls hl => ?_)
  refine lv_iconst (v := 0) hx hb d_Lines_slotsOf_2 (by decide) ?_
  refine lv_istore_n (lv' := [(3, .int (0 : Int32)), (2, .int (0 : Int32)), (0, .ref (ao 23)), (1, .int x0)]) hx hb d_Lines_slotsOf_3 rfl hl (by decide) rfl (fun ls hl => ?_)
  exact w_x_Lines_slotsOf_b4 X _ _ _ _ _ hf H locs ls hP hS (lv_sub hl [2, 3, 1, 0] rfl)
theorem c_x_Lines_slotsOf {l : Launch} {D : va_G} {cI cZ cJ : ClassId} {ao aa : Nat → Nat} {S : St} {x0 : Int32} {z : Int32 × St} (hz : x_Lines_slotsOf S x0 = some z) : Ct l y_Lines_slotsOf (.code y_Lines_slotsOf b_Lines_slotsOf 4 (some .int) :: gw) rm_x_Lines_slotsOf D [(cI, .int), (cZ, .boolean), (cJ, .long)] (xA ao aa) (xW cI cZ cJ ao aa) [.ref (ao 23), .int x0] S (some (.int z.1)) z.2 :=
  Ct_of (by decide) (fun p e s m args below meth c X => w_x_Lines_slotsOf X _ _ hz) (Nat.le_of_ble_eq_true rfl)
def x_Lines_allows_b45 (S : St) (x1 : Int32) (x2 : Int32) : Option (Int32 × St) :=
  (x_G_isSlot S x2).bind fun q3 =>
  if q3.1 = 0 then
    some ((1 : Int32), q3.2)
  else
    (x_Lines_slotsOf q3.2 x1).bind fun q4 =>
    if (2 : Int32) ≤ q4.1 then
      some ((0 : Int32), q4.2)
    else
      some ((1 : Int32), q4.2)
def x_Lines_allows (S : St) (x0 : Int32) (x1 : Int32) : Option (Int32 × St) :=
  (x_Lines_kindsOf S x0).bind fun q1 =>
  (x_Lines_kindAt q1.2 x0 (q1.1 - (1 : Int32))).bind fun q2 =>
  if x1 = (1 : Int32) then
    if q2.1 = 0 then
      some ((1 : Int32), q2.2)
    else
      if q2.1 = (1 : Int32) then
        some ((1 : Int32), q2.2)
      else
        some ((0 : Int32), q2.2)
  else
    if q2.1 = (9 : Int32) then
      if x1 = 0 then
        x_Lines_allows_b45 q2.2 x0 x1
      else
        some ((0 : Int32), q2.2)
    else
      x_Lines_allows_b45 q2.2 x0 x1
def rm_x_Lines_allows : Room := { frames := 3, cells := 0, slots := 0, locals := 66 }
theorem ok_x_Lines_allows : CalV y_Lines_allows b_Lines_allows 4 (some .boolean) 2 rm_x_Lines_allows := ⟨kc_Lines_allows, ki_Lines_allows, kl_Lines_allows, ji_Lines, ⟨by decide, by decide, by decide +kernel⟩, rfl, rfl⟩
set_option maxHeartbeats 4000000 in
set_option maxRecDepth 100000 in
theorem w_x_Lines_allows_b45 {z : Int32 × St} (X : Cx b_Lines_allows 4 (some .boolean) R_Lines D [(cI, .int), (cZ, .boolean), (cJ, .long)] (xA ao aa) (xW cI cZ cJ ao aa) p s m args meth c) (S : St) (x1 : Int32) (x2 : Int32) (hf : x_Lines_allows_b45 S x1 x2 = some z) : WX rm_x_Lines_allows D (xA ao aa) (xW cI cZ cJ ao aa) p l e s m args below meth c (some (.int z.1)) z.2 45 [] 4 [(0, .ref (ao 23)), (1, .int x1), (2, .int x2)] S := by
  intro H locs ls hP hS hl
  obtain ⟨hx, hb, hr0, hml, hown, htg, hlk, hK, hN, hI⟩ := id X
  unfold x_Lines_allows_b45 at hf
  refine lv_iload_n hx hb d_Lines_allows_45 rfl (lv_at hl 2 rfl) ?_
  obtain ⟨q3, he, hf⟩ := ob_some hf
  refine cl_Ti (As := [.int x2]) (rest := []) X (c_x_G_isSlot he) ok_x_G_isSlot k_mn_Lines_51 rfl rfl hl.1 (Nat.le_of_ble_eq_true rfl) d_Lines_allows_46 ⟨by decide, by decide⟩ hP hS (fun H locs hP hS => ?_)
  refine lv_if_eq (tgt := 61) hx hb d_Lines_allows_49 (by decide) (fun c => ?_) (fun c => ?_)
  · have hf := if_t hf c
    refine lv_iconst (v := 1) hx hb d_Lines_allows_61 (by decide) ?_
    refine lv_goto (tgt := 66) hx hb d_Lines_allows_62 (by decide) ?_
    obtain rfl := Option.some.inj hf
    exact W.zret (ty := .boolean) hx hb hr0 rfl (fun t ht _ => ⟨⟨rfl, by rw [ht]; exact hP⟩, hS.F ht⟩) hS.2.2 d_Lines_allows_66 hlk
  · have hf := if_f hf c
    refine lv_aload_n hx hb d_Lines_allows_52 rfl (lv_at hl 0 rfl) ?_
    refine lv_iload_n hx hb d_Lines_allows_53 rfl (lv_at hl 1 rfl) ?_
    obtain ⟨q4, he, hf⟩ := ob_some hf
    refine cl_Vi (As := [.int x1]) (rest := []) X (c_x_Lines_slotsOf he) ok_x_Lines_slotsOf k_m_Lines_54 (va_recv hK hP rfl xo_23) rfl rfl hl.1 (Nat.le_of_ble_eq_true rfl) d_Lines_allows_54 ⟨by decide, by decide⟩ hP hS (fun H locs hP hS => ?_)
    refine lv_iconst (v := 2) hx hb d_Lines_allows_57 (by decide) ?_
    refine lv_icmp_ge (tgt := 65) hx hb d_Lines_allows_58 (by decide) (fun c => ?_) (fun c => ?_)
    · have hf := if_t hf c
      refine lv_iconst (v := 0) hx hb d_Lines_allows_65 (by decide) ?_
      obtain rfl := Option.some.inj hf
      exact W.zret (ty := .boolean) hx hb hr0 rfl (fun t ht _ => ⟨⟨rfl, by rw [ht]; exact hP⟩, hS.F ht⟩) hS.2.2 d_Lines_allows_66 hlk
    · have hf := if_f hf c
      refine lv_iconst (v := 1) hx hb d_Lines_allows_61 (by decide) ?_
      refine lv_goto (tgt := 66) hx hb d_Lines_allows_62 (by decide) ?_
      obtain rfl := Option.some.inj hf
      exact W.zret (ty := .boolean) hx hb hr0 rfl (fun t ht _ => ⟨⟨rfl, by rw [ht]; exact hP⟩, hS.F ht⟩) hS.2.2 d_Lines_allows_66 hlk
set_option maxHeartbeats 4000000 in
set_option maxRecDepth 100000 in
theorem w_x_Lines_allows {z : Int32 × St} (X : Cx b_Lines_allows 4 (some .boolean) R_Lines D [(cI, .int), (cZ, .boolean), (cJ, .long)] (xA ao aa) (xW cI cZ cJ ao aa) p s m args meth c) (S : St) (x0 : Int32) (x1 : Int32) (hf : x_Lines_allows S x0 x1 = some z) : WX rm_x_Lines_allows D (xA ao aa) (xW cI cZ cJ ao aa) p l e s m args below meth c (some (.int z.1)) z.2 0 [] 4 [(0, .ref (ao 23)), (1, .int x0), (2, .int x1)] S := by
  intro H locs ls hP hS hl
  obtain ⟨hx, hb, hr0, hml, hown, htg, hlk, hK, hN, hI⟩ := id X
  unfold x_Lines_allows at hf
  refine lv_aload_n hx hb d_Lines_allows_0 rfl (lv_at hl 0 rfl) ?_
  refine lv_iload_n hx hb d_Lines_allows_1 rfl (lv_at hl 1 rfl) ?_
  refine lv_aload_n hx hb d_Lines_allows_2 rfl (lv_at hl 0 rfl) ?_
  refine lv_iload_n hx hb d_Lines_allows_3 rfl (lv_at hl 1 rfl) ?_
  obtain ⟨q1, he, hf⟩ := ob_some hf
  refine cl_Vi (As := [.int x0]) (rest := [.int x0, .ref (ao 23)]) X (c_x_Lines_kindsOf he) ok_x_Lines_kindsOf k_m_Lines_43 (va_recv hK hP rfl xo_23) rfl rfl hl.1 (Nat.le_of_ble_eq_true rfl) d_Lines_allows_4 ⟨by decide, by decide⟩ hP hS (fun H locs hP hS => ?_)
  refine lv_iconst (v := 1) hx hb d_Lines_allows_7 (by decide) ?_
  refine lv_isub hx hb d_Lines_allows_8 ?_
  obtain ⟨q2, he, hf⟩ := ob_some hf
  refine cl_Vi (As := [.int x0, .int (q1.1 - (1 : Int32))]) (rest := []) X (c_x_Lines_kindAt he) ok_x_Lines_kindAt k_m_Lines_47 (va_recv hK hP rfl xo_23) rfl rfl hl.1 (Nat.le_of_ble_eq_true rfl) d_Lines_allows_9 ⟨by decide, by decide⟩ hP hS (fun H locs hP hS => ?_)
  refine lv_istore_n (lv' := [(3, .int q2.1), (0, .ref (ao 23)), (1, .int x0), (2, .int x1)]) hx hb d_Lines_allows_12 rfl hl (by decide) rfl (fun ls hl => ?_)
  refine lv_iload_n hx hb d_Lines_allows_13 rfl (lv_at hl 3 rfl) ?_
  refine lv_iconst (v := 1) hx hb d_Lines_allows_14 (by decide) ?_
  refine lv_icmp_ne (tgt := 33) hx hb d_Lines_allows_15 (by decide) (fun c => ?_) (fun c => ?_)
  · have hf := if_f hf c
    refine lv_iload_n hx hb d_Lines_allows_33 rfl (lv_at hl 0 rfl) ?_
    refine lv_bipush (v := 9) hx hb d_Lines_allows_34 (by decide) ?_
    refine lv_icmp_ne (tgt := 45) hx hb d_Lines_allows_36 (by decide) (fun c => ?_) (fun c => ?_)
    · have hf := if_f hf c
      exact w_x_Lines_allows_b45 X _ _ _ hf H locs ls hP hS (lv_sub hl [1, 2, 3] rfl)
    · have hf := if_t hf c
      refine lv_iload_n hx hb d_Lines_allows_39 rfl (lv_at hl 3 rfl) ?_
      refine lv_if_eq (tgt := 45) hx hb d_Lines_allows_40 (by decide) (fun c => ?_) (fun c => ?_)
      · have hf := if_t hf c
        exact w_x_Lines_allows_b45 X _ _ _ hf H locs ls hP hS (lv_sub hl [1, 2, 3] rfl)
      · have hf := if_f hf c
        refine lv_iconst (v := 0) hx hb d_Lines_allows_43 (by decide) ?_
        obtain rfl := Option.some.inj hf
        exact W.zret (ty := .boolean) hx hb hr0 rfl (fun t ht _ => ⟨⟨rfl, by rw [ht]; exact hP⟩, hS.F ht⟩) hS.2.2 d_Lines_allows_44 hlk
  · have hf := if_t hf c
    refine lv_iload_n hx hb d_Lines_allows_18 rfl (lv_at hl 0 rfl) ?_
    refine lv_if_eq (tgt := 27) hx hb d_Lines_allows_19 (by decide) (fun c => ?_) (fun c => ?_)
    · have hf := if_t hf c
      refine lv_iconst (v := 1) hx hb d_Lines_allows_27 (by decide) ?_
      refine lv_goto (tgt := 32) hx hb d_Lines_allows_28 (by decide) ?_
      obtain rfl := Option.some.inj hf
      exact W.zret (ty := .boolean) hx hb hr0 rfl (fun t ht _ => ⟨⟨rfl, by rw [ht]; exact hP⟩, hS.F ht⟩) hS.2.2 d_Lines_allows_32 hlk
    · have hf := if_f hf c
      refine lv_iload_n hx hb d_Lines_allows_22 rfl (lv_at hl 0 rfl) ?_
      refine lv_iconst (v := 1) hx hb d_Lines_allows_23 (by decide) ?_
      refine lv_icmp_ne (tgt := 31) hx hb d_Lines_allows_24 (by decide) (fun c => ?_) (fun c => ?_)
      · have hf := if_f hf c
        refine lv_iconst (v := 0) hx hb d_Lines_allows_31 (by decide) ?_
        obtain rfl := Option.some.inj hf
        exact W.zret (ty := .boolean) hx hb hr0 rfl (fun t ht _ => ⟨⟨rfl, by rw [ht]; exact hP⟩, hS.F ht⟩) hS.2.2 d_Lines_allows_32 hlk
      · have hf := if_t hf c
        refine lv_iconst (v := 1) hx hb d_Lines_allows_27 (by decide) ?_
        refine lv_goto (tgt := 32) hx hb d_Lines_allows_28 (by decide) ?_
        obtain rfl := Option.some.inj hf
        exact W.zret (ty := .boolean) hx hb hr0 rfl (fun t ht _ => ⟨⟨rfl, by rw [ht]; exact hP⟩, hS.F ht⟩) hS.2.2 d_Lines_allows_32 hlk
theorem c_x_Lines_allows {l : Launch} {D : va_G} {cI cZ cJ : ClassId} {ao aa : Nat → Nat} {S : St} {x0 : Int32} {x1 : Int32} {z : Int32 × St} (hz : x_Lines_allows S x0 x1 = some z) : Ct l y_Lines_allows (.code y_Lines_allows b_Lines_allows 4 (some .boolean) :: gw) rm_x_Lines_allows D [(cI, .int), (cZ, .boolean), (cJ, .long)] (xA ao aa) (xW cI cZ cJ ao aa) [.ref (ao 23), .int x0, .int x1] S (some (.int z.1)) z.2 :=
  Ct_of (by decide) (fun p e s m args below meth c X => w_x_Lines_allows X _ _ _ hz) (Nat.le_of_ble_eq_true rfl)
end
end
