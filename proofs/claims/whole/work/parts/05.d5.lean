theorem d_M_isAny_23 : decode b_M_isAny 23 = .ok (.goto 4, 3) := by decide +kernel
theorem d_M_isAny_26 : decode b_M_isAny 26 = .ok (.iconst 0, 1) := by decide +kernel
theorem d_M_isAny_27 : decode b_M_isAny 27 = .ok (.ireturn, 1) := by decide +kernel
theorem d_M_word_0 : decode b_M_word 0 = .ok (.iload_n 1, 1) := by decide +kernel
theorem d_M_word_1 : decode b_M_word 1 = .ok (.invokestatic 154, 3) := by decide +kernel
theorem d_M_word_4 : decode b_M_word 4 = .ok (.ifCond .ne 6, 3) := by decide +kernel
theorem d_M_word_7 : decode b_M_word 7 = .ok (.bipush (-102), 2) := by decide +kernel
theorem d_M_word_9 : decode b_M_word 9 = .ok (.ireturn, 1) := by decide +kernel
theorem d_M_word_10 : decode b_M_word 10 = .ok (.aload_n 0, 1) := by decide +kernel
theorem d_M_word_11 : decode b_M_word 11 = .ok (.getfield 157, 3) := by decide +kernel
theorem d_M_word_14 : decode b_M_word 14 = .ok (.bipush 60, 2) := by decide +kernel
theorem d_M_word_16 : decode b_M_word 16 = .ok (.if_icmp .ne 6, 3) := by decide +kernel
theorem d_M_word_19 : decode b_M_word 19 = .ok (.bipush (-104), 2) := by decide +kernel
theorem d_M_word_21 : decode b_M_word 21 = .ok (.ireturn, 1) := by decide +kernel
theorem d_M_word_22 : decode b_M_word 22 = .ok (.aload_n 0, 1) := by decide +kernel
theorem d_M_word_23 : decode b_M_word 23 = .ok (.getfield 53, 3) := by decide +kernel
theorem d_M_word_26 : decode b_M_word 26 = .ok (.aload_n 0, 1) := by decide +kernel
theorem d_M_word_27 : decode b_M_word 27 = .ok (.getfield 157, 3) := by decide +kernel
theorem d_M_word_30 : decode b_M_word 30 = .ok (.iload_n 1, 1) := by decide +kernel
theorem d_M_word_31 : decode b_M_word 31 = .ok (.iastore, 1) := by decide +kernel
theorem d_M_word_32 : decode b_M_word 32 = .ok (.aload_n 0, 1) := by decide +kernel
theorem d_M_word_33 : decode b_M_word 33 = .ok (.dup, 1) := by decide +kernel
theorem d_M_word_34 : decode b_M_word 34 = .ok (.getfield 157, 3) := by decide +kernel
theorem d_M_word_37 : decode b_M_word 37 = .ok (.iconst 1, 1) := by decide +kernel
theorem d_M_word_38 : decode b_M_word 38 = .ok (.iadd, 1) := by decide +kernel
theorem d_M_word_39 : decode b_M_word 39 = .ok (.putfield 157, 3) := by decide +kernel
theorem d_M_word_42 : decode b_M_word 42 = .ok (.aload_n 0, 1) := by decide +kernel
theorem d_M_word_43 : decode b_M_word 43 = .ok (.getfield 157, 3) := by decide +kernel
theorem d_M_word_46 : decode b_M_word 46 = .ok (.ireturn, 1) := by decide +kernel
theorem d_M_clear_0 : decode b_M_clear 0 = .ok (.aload_n 0, 1) := by decide +kernel
theorem d_M_clear_1 : decode b_M_clear 1 = .ok (.getfield 157, 3) := by decide +kernel
theorem d_M_clear_4 : decode b_M_clear 4 = .ok (.istore_n 1, 1) := by decide +kernel
theorem d_M_clear_5 : decode b_M_clear 5 = .ok (.aload_n 0, 1) := by decide +kernel
theorem d_M_clear_6 : decode b_M_clear 6 = .ok (.iconst 0, 1) := by decide +kernel
theorem d_M_clear_7 : decode b_M_clear 7 = .ok (.putfield 157, 3) := by decide +kernel
theorem d_M_clear_10 : decode b_M_clear 10 = .ok (.iload_n 1, 1) := by decide +kernel
theorem d_M_clear_11 : decode b_M_clear 11 = .ok (.ireturn, 1) := by decide +kernel
theorem d_M_take_0 : decode b_M_take 0 = .ok (.iconst 0, 1) := by decide +kernel
theorem d_M_take_1 : decode b_M_take 1 = .ok (.istore_n 3, 1) := by decide +kernel
theorem d_M_take_2 : decode b_M_take 2 = .ok (.iload_n 3, 1) := by decide +kernel
theorem d_M_take_3 : decode b_M_take 3 = .ok (.iload_n 2, 1) := by decide +kernel
theorem d_M_take_4 : decode b_M_take 4 = .ok (.if_icmp .ge 18, 3) := by decide +kernel
theorem d_M_take_7 : decode b_M_take 7 = .ok (.aload_n 0, 1) := by decide +kernel
theorem d_M_take_8 : decode b_M_take 8 = .ok (.getfield 56, 3) := by decide +kernel
theorem d_M_take_11 : decode b_M_take 11 = .ok (.iload_n 3, 1) := by decide +kernel
theorem d_M_take_12 : decode b_M_take 12 = .ok (.aload_n 1, 1) := by decide +kernel
theorem d_M_take_13 : decode b_M_take 13 = .ok (.iload_n 3, 1) := by decide +kernel
theorem d_M_take_14 : decode b_M_take 14 = .ok (.iaload, 1) := by decide +kernel
theorem d_M_take_15 : decode b_M_take 15 = .ok (.iastore, 1) := by decide +kernel
theorem d_M_take_16 : decode b_M_take 16 = .ok (.iinc 3 1, 3) := by decide +kernel
theorem d_M_take_19 : decode b_M_take 19 = .ok (.goto (-17), 3) := by decide +kernel
theorem d_M_take_22 : decode b_M_take 22 = .ok (.aload_n 0, 1) := by decide +kernel
theorem d_M_take_23 : decode b_M_take 23 = .ok (.iload_n 2, 1) := by decide +kernel
theorem d_M_take_24 : decode b_M_take 24 = .ok (.putfield 167, 3) := by decide +kernel
theorem d_M_take_27 : decode b_M_take 27 = .ok (.return_, 1) := by decide +kernel
theorem d_M_isHeld_0 : decode b_M_isHeld 0 = .ok (.aload_n 0, 1) := by decide +kernel
theorem d_M_isHeld_1 : decode b_M_isHeld 1 = .ok (.getfield 35, 3) := by decide +kernel
theorem d_M_isHeld_4 : decode b_M_isHeld 4 = .ok (.iload_n 1, 1) := by decide +kernel
theorem d_M_isHeld_5 : decode b_M_isHeld 5 = .ok (.iaload, 1) := by decide +kernel
theorem d_M_isHeld_6 : decode b_M_isHeld 6 = .ok (.bipush 6, 2) := by decide +kernel
theorem d_M_isHeld_8 : decode b_M_isHeld 8 = .ok (.iand, 1) := by decide +kernel
theorem d_M_isHeld_9 : decode b_M_isHeld 9 = .ok (.ifCond .eq 7, 3) := by decide +kernel
theorem d_M_isHeld_12 : decode b_M_isHeld 12 = .ok (.iconst 1, 1) := by decide +kernel
theorem d_M_isHeld_13 : decode b_M_isHeld 13 = .ok (.goto 4, 3) := by decide +kernel
theorem d_M_isHeld_16 : decode b_M_isHeld 16 = .ok (.iconst 0, 1) := by decide +kernel
theorem d_M_isHeld_17 : decode b_M_isHeld 17 = .ok (.ireturn, 1) := by decide +kernel
theorem d_M_isInScope_0 : decode b_M_isInScope 0 = .ok (.aload_n 0, 1) := by decide +kernel
theorem d_M_isInScope_1 : decode b_M_isInScope 1 = .ok (.getfield 35, 3) := by decide +kernel
theorem d_M_isInScope_4 : decode b_M_isInScope 4 = .ok (.iload_n 1, 1) := by decide +kernel
theorem d_M_isInScope_5 : decode b_M_isInScope 5 = .ok (.iaload, 1) := by decide +kernel
theorem d_M_isInScope_6 : decode b_M_isInScope 6 = .ok (.iconst 1, 1) := by decide +kernel
theorem d_M_isInScope_7 : decode b_M_isInScope 7 = .ok (.iand, 1) := by decide +kernel
theorem d_M_isInScope_8 : decode b_M_isInScope 8 = .ok (.ifCond .ne 11, 3) := by decide +kernel
theorem d_M_isInScope_11 : decode b_M_isInScope 11 = .ok (.aload_n 0, 1) := by decide +kernel
theorem d_M_isInScope_12 : decode b_M_isInScope 12 = .ok (.iload_n 1, 1) := by decide +kernel
theorem d_M_isInScope_13 : decode b_M_isInScope 13 = .ok (.invokevirtual 160, 3) := by decide +kernel
theorem d_M_isInScope_16 : decode b_M_isInScope 16 = .ok (.ifCond .eq 7, 3) := by decide +kernel
theorem d_M_isInScope_19 : decode b_M_isInScope 19 = .ok (.iconst 1, 1) := by decide +kernel
theorem d_M_isInScope_20 : decode b_M_isInScope 20 = .ok (.goto 4, 3) := by decide +kernel
theorem d_M_isInScope_23 : decode b_M_isInScope 23 = .ok (.iconst 0, 1) := by decide +kernel
theorem d_M_isInScope_24 : decode b_M_isInScope 24 = .ok (.ireturn, 1) := by decide +kernel
theorem d_M_phrase_0 : decode b_M_phrase 0 = .ok (.aload_n 0, 1) := by decide +kernel
theorem d_M_phrase_1 : decode b_M_phrase 1 = .ok (.lconst 0, 1) := by decide +kernel
theorem d_M_phrase_2 : decode b_M_phrase 2 = .ok (.putfield 170, 3) := by decide +kernel
theorem d_M_phrase_5 : decode b_M_phrase 5 = .ok (.aload_n 0, 1) := by decide +kernel
theorem d_M_phrase_6 : decode b_M_phrase 6 = .ok (.getfield 167, 3) := by decide +kernel
theorem d_M_phrase_9 : decode b_M_phrase 9 = .ok (.iload_n 1, 1) := by decide +kernel
theorem d_M_phrase_10 : decode b_M_phrase 10 = .ok (.isub, 1) := by decide +kernel
theorem d_M_phrase_11 : decode b_M_phrase 11 = .ok (.istore_n 2, 1) := by decide +kernel
theorem d_M_phrase_12 : decode b_M_phrase 12 = .ok (.iload_n 2, 1) := by decide +kernel
theorem d_M_phrase_13 : decode b_M_phrase 13 = .ok (.iconst 1, 1) := by decide +kernel
theorem d_M_phrase_14 : decode b_M_phrase 14 = .ok (.if_icmp .lt 103, 3) := by decide +kernel
theorem d_M_phrase_17 : decode b_M_phrase 17 = .ok (.iconst 0, 1) := by decide +kernel
theorem d_M_phrase_18 : decode b_M_phrase 18 = .ok (.istore_n 3, 1) := by decide +kernel
theorem d_M_phrase_19 : decode b_M_phrase 19 = .ok (.iload_n 3, 1) := by decide +kernel
theorem d_M_phrase_20 : decode b_M_phrase 20 = .ok (.aload_n 0, 1) := by decide +kernel
theorem d_M_phrase_21 : decode b_M_phrase 21 = .ok (.getfield 140, 3) := by decide +kernel
theorem d_M_phrase_24 : decode b_M_phrase 24 = .ok (.if_icmp .ge 76, 3) := by decide +kernel
theorem d_M_phrase_27 : decode b_M_phrase 27 = .ok (.aload_n 0, 1) := by decide +kernel
theorem d_M_phrase_28 : decode b_M_phrase 28 = .ok (.iload_n 3, 1) := by decide +kernel
theorem d_M_phrase_29 : decode b_M_phrase 29 = .ok (.invokevirtual 174, 3) := by decide +kernel
theorem d_M_phrase_32 : decode b_M_phrase 32 = .ok (.istore 4, 2) := by decide +kernel
theorem d_M_phrase_34 : decode b_M_phrase 34 = .ok (.iload_n 1, 1) := by decide +kernel
theorem d_M_phrase_35 : decode b_M_phrase 35 = .ok (.istore 5, 2) := by decide +kernel
theorem d_M_phrase_37 : decode b_M_phrase 37 = .ok (.iload 5, 2) := by decide +kernel
theorem d_M_phrase_39 : decode b_M_phrase 39 = .ok (.iload_n 1, 1) := by decide +kernel
theorem d_M_phrase_40 : decode b_M_phrase 40 = .ok (.iload_n 2, 1) := by decide +kernel
theorem d_M_phrase_41 : decode b_M_phrase 41 = .ok (.iadd, 1) := by decide +kernel
theorem d_M_phrase_42 : decode b_M_phrase 42 = .ok (.if_icmp .ge 28, 3) := by decide +kernel
theorem d_M_phrase_45 : decode b_M_phrase 45 = .ok (.iload 4, 2) := by decide +kernel
theorem d_M_phrase_47 : decode b_M_phrase 47 = .ok (.ifCond .eq 23, 3) := by decide +kernel
theorem d_M_phrase_50 : decode b_M_phrase 50 = .ok (.aload_n 0, 1) := by decide +kernel
theorem d_M_phrase_51 : decode b_M_phrase 51 = .ok (.iload_n 3, 1) := by decide +kernel
theorem d_M_phrase_52 : decode b_M_phrase 52 = .ok (.aload_n 0, 1) := by decide +kernel
theorem d_M_phrase_53 : decode b_M_phrase 53 = .ok (.getfield 56, 3) := by decide +kernel
theorem d_M_phrase_56 : decode b_M_phrase 56 = .ok (.iload 5, 2) := by decide +kernel
theorem d_M_phrase_58 : decode b_M_phrase 58 = .ok (.iaload, 1) := by decide +kernel
theorem d_M_phrase_59 : decode b_M_phrase 59 = .ok (.invokevirtual 143, 3) := by decide +kernel
theorem d_M_phrase_62 : decode b_M_phrase 62 = .ok (.istore 4, 2) := by decide +kernel
theorem d_M_phrase_64 : decode b_M_phrase 64 = .ok (.iinc 5 1, 3) := by decide +kernel
theorem d_M_phrase_67 : decode b_M_phrase 67 = .ok (.goto (-30), 3) := by decide +kernel
theorem d_M_phrase_70 : decode b_M_phrase 70 = .ok (.aload_n 0, 1) := by decide +kernel
theorem d_M_phrase_71 : decode b_M_phrase 71 = .ok (.iload 4, 2) := by decide +kernel
theorem d_M_phrase_73 : decode b_M_phrase 73 = .ok (.ifCond .eq 14, 3) := by decide +kernel
theorem d_M_phrase_76 : decode b_M_phrase 76 = .ok (.aload_n 0, 1) := by decide +kernel
theorem d_M_phrase_77 : decode b_M_phrase 77 = .ok (.getfield 170, 3) := by decide +kernel
theorem d_M_phrase_80 : decode b_M_phrase 80 = .ok (.lconst 1, 1) := by decide +kernel
theorem d_M_phrase_81 : decode b_M_phrase 81 = .ok (.iload_n 3, 1) := by decide +kernel
theorem d_M_phrase_82 : decode b_M_phrase 82 = .ok (.lshl, 1) := by decide +kernel
theorem d_M_phrase_83 : decode b_M_phrase 83 = .ok (.lor, 1) := by decide +kernel
theorem d_M_phrase_84 : decode b_M_phrase 84 = .ok (.goto 7, 3) := by decide +kernel
theorem d_M_phrase_87 : decode b_M_phrase 87 = .ok (.aload_n 0, 1) := by decide +kernel
theorem d_M_phrase_88 : decode b_M_phrase 88 = .ok (.getfield 170, 3) := by decide +kernel
theorem d_M_phrase_91 : decode b_M_phrase 91 = .ok (.putfield 170, 3) := by decide +kernel
theorem d_M_phrase_94 : decode b_M_phrase 94 = .ok (.iinc 3 1, 3) := by decide +kernel
theorem d_M_phrase_97 : decode b_M_phrase 97 = .ok (.goto (-78), 3) := by decide +kernel
theorem d_M_phrase_100 : decode b_M_phrase 100 = .ok (.aload_n 0, 1) := by decide +kernel
theorem d_M_phrase_101 : decode b_M_phrase 101 = .ok (.getfield 170, 3) := by decide +kernel
theorem d_M_phrase_104 : decode b_M_phrase 104 = .ok (.lconst 0, 1) := by decide +kernel
theorem d_M_phrase_105 : decode b_M_phrase 105 = .ok (.lcmp, 1) := by decide +kernel
theorem d_M_phrase_106 : decode b_M_phrase 106 = .ok (.ifCond .eq 5, 3) := by decide +kernel
theorem d_M_phrase_109 : decode b_M_phrase 109 = .ok (.iload_n 2, 1) := by decide +kernel
theorem d_M_phrase_110 : decode b_M_phrase 110 = .ok (.ireturn, 1) := by decide +kernel
theorem d_M_phrase_111 : decode b_M_phrase 111 = .ok (.iinc 2 (-1), 3) := by decide +kernel
theorem d_M_phrase_114 : decode b_M_phrase 114 = .ok (.goto (-102), 3) := by decide +kernel
theorem d_M_phrase_117 : decode b_M_phrase 117 = .ok (.iconst 0, 1) := by decide +kernel
theorem d_M_phrase_118 : decode b_M_phrase 118 = .ok (.ireturn, 1) := by decide +kernel
theorem d_M_has_0 : decode b_M_has 0 = .ok (.lload_n 0, 1) := by decide +kernel
theorem d_M_has_1 : decode b_M_has 1 = .ok (.iload_n 2, 1) := by decide +kernel
theorem d_M_has_2 : decode b_M_has 2 = .ok (.lshr, 1) := by decide +kernel
theorem d_M_has_3 : decode b_M_has 3 = .ok (.lconst 1, 1) := by decide +kernel
theorem d_M_has_4 : decode b_M_has 4 = .ok (.land, 1) := by decide +kernel
theorem d_M_has_5 : decode b_M_has 5 = .ok (.lconst 1, 1) := by decide +kernel
theorem d_M_has_6 : decode b_M_has 6 = .ok (.lcmp, 1) := by decide +kernel
theorem d_M_has_7 : decode b_M_has 7 = .ok (.ifCond .ne 7, 3) := by decide +kernel
theorem d_M_has_10 : decode b_M_has 10 = .ok (.iconst 1, 1) := by decide +kernel
theorem d_M_has_11 : decode b_M_has 11 = .ok (.goto 4, 3) := by decide +kernel
theorem d_M_has_14 : decode b_M_has 14 = .ok (.iconst 0, 1) := by decide +kernel
theorem d_M_has_15 : decode b_M_has 15 = .ok (.ireturn, 1) := by decide +kernel
theorem d_M_manyOf_0 : decode b_M_manyOf 0 = .ok (.iconst 0, 1) := by decide +kernel
theorem d_M_manyOf_1 : decode b_M_manyOf 1 = .ok (.istore_n 3, 1) := by decide +kernel
theorem d_M_manyOf_2 : decode b_M_manyOf 2 = .ok (.iconst 0, 1) := by decide +kernel
theorem d_M_manyOf_3 : decode b_M_manyOf 3 = .ok (.istore 4, 2) := by decide +kernel
theorem d_M_manyOf_5 : decode b_M_manyOf 5 = .ok (.iload 4, 2) := by decide +kernel
theorem d_M_manyOf_7 : decode b_M_manyOf 7 = .ok (.aload_n 0, 1) := by decide +kernel
theorem d_M_manyOf_8 : decode b_M_manyOf 8 = .ok (.getfield 140, 3) := by decide +kernel
theorem d_M_manyOf_11 : decode b_M_manyOf 11 = .ok (.if_icmp .ge 26, 3) := by decide +kernel
theorem d_M_manyOf_14 : decode b_M_manyOf 14 = .ok (.iload_n 3, 1) := by decide +kernel
theorem d_M_manyOf_15 : decode b_M_manyOf 15 = .ok (.lload_n 1, 1) := by decide +kernel
theorem d_M_manyOf_16 : decode b_M_manyOf 16 = .ok (.iload 4, 2) := by decide +kernel
theorem d_M_manyOf_18 : decode b_M_manyOf 18 = .ok (.invokestatic 163, 3) := by decide +kernel
theorem d_M_manyOf_21 : decode b_M_manyOf 21 = .ok (.ifCond .eq 7, 3) := by decide +kernel
theorem d_M_manyOf_24 : decode b_M_manyOf 24 = .ok (.iconst 1, 1) := by decide +kernel
theorem d_M_manyOf_25 : decode b_M_manyOf 25 = .ok (.goto 4, 3) := by decide +kernel
theorem d_M_manyOf_28 : decode b_M_manyOf 28 = .ok (.iconst 0, 1) := by decide +kernel
theorem d_M_manyOf_29 : decode b_M_manyOf 29 = .ok (.iadd, 1) := by decide +kernel
theorem d_M_manyOf_30 : decode b_M_manyOf 30 = .ok (.istore_n 3, 1) := by decide +kernel
theorem d_M_manyOf_31 : decode b_M_manyOf 31 = .ok (.iinc 4 1, 3) := by decide +kernel
theorem d_M_manyOf_34 : decode b_M_manyOf 34 = .ok (.goto (-29), 3) := by decide +kernel
theorem d_M_manyOf_37 : decode b_M_manyOf 37 = .ok (.iload_n 3, 1) := by decide +kernel
theorem d_M_manyOf_38 : decode b_M_manyOf 38 = .ok (.ireturn, 1) := by decide +kernel
theorem d_M_thingOf_0 : decode b_M_thingOf 0 = .ok (.iload_n 3, 1) := by decide +kernel
theorem d_M_thingOf_1 : decode b_M_thingOf 1 = .ok (.istore 4, 2) := by decide +kernel
theorem d_M_thingOf_3 : decode b_M_thingOf 3 = .ok (.iconst 0, 1) := by decide +kernel
theorem d_M_thingOf_4 : decode b_M_thingOf 4 = .ok (.istore 5, 2) := by decide +kernel
theorem d_M_thingOf_6 : decode b_M_thingOf 6 = .ok (.iload 5, 2) := by decide +kernel
theorem d_M_thingOf_8 : decode b_M_thingOf 8 = .ok (.aload_n 0, 1) := by decide +kernel
theorem d_M_thingOf_9 : decode b_M_thingOf 9 = .ok (.getfield 140, 3) := by decide +kernel
theorem d_M_thingOf_12 : decode b_M_thingOf 12 = .ok (.if_icmp .ge 29, 3) := by decide +kernel
theorem d_M_thingOf_15 : decode b_M_thingOf 15 = .ok (.lload_n 1, 1) := by decide +kernel
theorem d_M_thingOf_16 : decode b_M_thingOf 16 = .ok (.iload 5, 2) := by decide +kernel
theorem d_M_thingOf_18 : decode b_M_thingOf 18 = .ok (.invokestatic 163, 3) := by decide +kernel
theorem d_M_thingOf_21 : decode b_M_thingOf 21 = .ok (.ifCond .eq 14, 3) := by decide +kernel
theorem d_M_thingOf_24 : decode b_M_thingOf 24 = .ok (.iload 4, 2) := by decide +kernel
theorem d_M_thingOf_26 : decode b_M_thingOf 26 = .ok (.ifCond .ne 6, 3) := by decide +kernel
theorem d_M_thingOf_29 : decode b_M_thingOf 29 = .ok (.iload 5, 2) := by decide +kernel
theorem d_M_thingOf_31 : decode b_M_thingOf 31 = .ok (.ireturn, 1) := by decide +kernel
theorem d_M_thingOf_32 : decode b_M_thingOf 32 = .ok (.iinc 4 (-1), 3) := by decide +kernel
theorem d_M_thingOf_35 : decode b_M_thingOf 35 = .ok (.iinc 5 1, 3) := by decide +kernel
theorem d_M_thingOf_38 : decode b_M_thingOf 38 = .ok (.goto (-32), 3) := by decide +kernel
theorem d_M_thingOf_41 : decode b_M_thingOf 41 = .ok (.iconst (-1), 1) := by decide +kernel
theorem d_M_thingOf_42 : decode b_M_thingOf 42 = .ok (.ireturn, 1) := by decide +kernel
theorem d_M_isCreature_0 : decode b_M_isCreature 0 = .ok (.aload_n 0, 1) := by decide +kernel
theorem d_M_isCreature_1 : decode b_M_isCreature 1 = .ok (.getfield 35, 3) := by decide +kernel
theorem d_M_isCreature_4 : decode b_M_isCreature 4 = .ok (.iload_n 1, 1) := by decide +kernel
theorem d_M_isCreature_5 : decode b_M_isCreature 5 = .ok (.iaload, 1) := by decide +kernel
theorem d_M_isCreature_6 : decode b_M_isCreature 6 = .ok (.bipush 8, 2) := by decide +kernel
theorem d_M_isCreature_8 : decode b_M_isCreature 8 = .ok (.iand, 1) := by decide +kernel
theorem d_M_isCreature_9 : decode b_M_isCreature 9 = .ok (.ifCond .eq 7, 3) := by decide +kernel
theorem d_M_isCreature_12 : decode b_M_isCreature 12 = .ok (.iconst 1, 1) := by decide +kernel
theorem d_M_isCreature_13 : decode b_M_isCreature 13 = .ok (.goto 4, 3) := by decide +kernel
theorem d_M_isCreature_16 : decode b_M_isCreature 16 = .ok (.iconst 0, 1) := by decide +kernel
theorem d_M_isCreature_17 : decode b_M_isCreature 17 = .ok (.ireturn, 1) := by decide +kernel
theorem d_M_stands_0 : decode b_M_stands 0 = .ok (.iload_n 1, 1) := by decide +kernel
theorem d_M_stands_1 : decode b_M_stands 1 = .ok (.aload_n 0, 1) := by decide +kernel
theorem d_M_stands_2 : decode b_M_stands 2 = .ok (.getfield 167, 3) := by decide +kernel
theorem d_M_stands_5 : decode b_M_stands 5 = .ok (.if_icmp .ge 17, 3) := by decide +kernel
theorem d_M_stands_8 : decode b_M_stands 8 = .ok (.aload_n 0, 1) := by decide +kernel
theorem d_M_stands_9 : decode b_M_stands 9 = .ok (.getfield 56, 3) := by decide +kernel
theorem d_M_stands_12 : decode b_M_stands 12 = .ok (.iload_n 1, 1) := by decide +kernel
theorem d_M_stands_13 : decode b_M_stands 13 = .ok (.iaload, 1) := by decide +kernel
theorem d_M_stands_14 : decode b_M_stands 14 = .ok (.iload_n 2, 1) := by decide +kernel
theorem d_M_stands_15 : decode b_M_stands 15 = .ok (.if_icmp .ne 7, 3) := by decide +kernel
theorem d_M_stands_18 : decode b_M_stands 18 = .ok (.iconst 1, 1) := by decide +kernel
theorem d_M_stands_19 : decode b_M_stands 19 = .ok (.goto 4, 3) := by decide +kernel
theorem d_M_stands_22 : decode b_M_stands 22 = .ok (.iconst 0, 1) := by decide +kernel
theorem d_M_stands_23 : decode b_M_stands 23 = .ok (.ireturn, 1) := by decide +kernel
theorem d_M_off_0 : decode b_M_off 0 = .ok (.iload_n 1, 1) := by decide +kernel
theorem d_M_off_1 : decode b_M_off 1 = .ok (.istore_n 2, 1) := by decide +kernel
theorem d_M_off_2 : decode b_M_off 2 = .ok (.iload_n 2, 1) := by decide +kernel
theorem d_M_off_3 : decode b_M_off 3 = .ok (.aload_n 0, 1) := by decide +kernel
theorem d_M_off_4 : decode b_M_off 4 = .ok (.getfield 157, 3) := by decide +kernel
theorem d_M_off_7 : decode b_M_off 7 = .ok (.if_icmp .ge 23, 3) := by decide +kernel
theorem d_M_off_10 : decode b_M_off 10 = .ok (.aload_n 0, 1) := by decide +kernel
theorem d_M_off_11 : decode b_M_off 11 = .ok (.getfield 53, 3) := by decide +kernel
theorem d_M_off_14 : decode b_M_off 14 = .ok (.iload_n 2, 1) := by decide +kernel
theorem d_M_off_15 : decode b_M_off 15 = .ok (.iload_n 1, 1) := by decide +kernel
theorem d_M_off_16 : decode b_M_off 16 = .ok (.isub, 1) := by decide +kernel
theorem d_M_off_17 : decode b_M_off 17 = .ok (.aload_n 0, 1) := by decide +kernel
theorem d_M_off_18 : decode b_M_off 18 = .ok (.getfield 53, 3) := by decide +kernel
theorem d_M_off_21 : decode b_M_off 21 = .ok (.iload_n 2, 1) := by decide +kernel
theorem d_M_off_22 : decode b_M_off 22 = .ok (.iaload, 1) := by decide +kernel
theorem d_M_off_23 : decode b_M_off 23 = .ok (.iastore, 1) := by decide +kernel
theorem d_M_off_24 : decode b_M_off 24 = .ok (.iinc 2 1, 3) := by decide +kernel
theorem d_M_off_27 : decode b_M_off 27 = .ok (.goto (-25), 3) := by decide +kernel
theorem d_M_off_30 : decode b_M_off 30 = .ok (.aload_n 0, 1) := by decide +kernel
theorem d_M_off_31 : decode b_M_off 31 = .ok (.dup, 1) := by decide +kernel
theorem d_M_off_32 : decode b_M_off 32 = .ok (.getfield 157, 3) := by decide +kernel
theorem d_M_off_35 : decode b_M_off 35 = .ok (.iload_n 1, 1) := by decide +kernel
theorem d_M_off_36 : decode b_M_off 36 = .ok (.isub, 1) := by decide +kernel
theorem d_M_off_37 : decode b_M_off 37 = .ok (.putfield 157, 3) := by decide +kernel
theorem d_M_off_40 : decode b_M_off 40 = .ok (.return_, 1) := by decide +kernel
theorem d_M_order_0 : decode b_M_order 0 = .ok (.aload_n 0, 1) := by decide +kernel
theorem d_M_order_1 : decode b_M_order 1 = .ok (.aload_n 0, 1) := by decide +kernel
theorem d_M_order_2 : decode b_M_order 2 = .ok (.getfield 53, 3) := by decide +kernel
theorem d_M_order_5 : decode b_M_order 5 = .ok (.aload_n 0, 1) := by decide +kernel
theorem d_M_order_6 : decode b_M_order 6 = .ok (.getfield 157, 3) := by decide +kernel
theorem d_M_order_9 : decode b_M_order 9 = .ok (.invokevirtual 275, 3) := by decide +kernel
theorem d_M_order_12 : decode b_M_order 12 = .ok (.aload_n 0, 1) := by decide +kernel
theorem d_M_order_13 : decode b_M_order 13 = .ok (.iconst 0, 1) := by decide +kernel
theorem d_M_order_14 : decode b_M_order 14 = .ok (.invokevirtual 229, 3) := by decide +kernel
theorem d_M_order_17 : decode b_M_order 17 = .ok (.istore_n 1, 1) := by decide +kernel
theorem d_M_order_18 : decode b_M_order 18 = .ok (.aload_n 0, 1) := by decide +kernel
theorem d_M_order_19 : decode b_M_order 19 = .ok (.iconst (-1), 1) := by decide +kernel
theorem d_M_order_20 : decode b_M_order 20 = .ok (.putfield 103, 3) := by decide +kernel
theorem d_M_order_23 : decode b_M_order 23 = .ok (.iload_n 1, 1) := by decide +kernel
theorem d_M_order_24 : decode b_M_order 24 = .ok (.ifCond .le 71, 3) := by decide +kernel
theorem d_M_order_27 : decode b_M_order 27 = .ok (.aload_n 0, 1) := by decide +kernel
theorem d_M_order_28 : decode b_M_order 28 = .ok (.aload_n 0, 1) := by decide +kernel
theorem d_M_order_29 : decode b_M_order 29 = .ok (.getfield 170, 3) := by decide +kernel
theorem d_M_order_32 : decode b_M_order 32 = .ok (.invokevirtual 238, 3) := by decide +kernel
theorem d_M_order_35 : decode b_M_order 35 = .ok (.iconst 1, 1) := by decide +kernel
theorem d_M_order_36 : decode b_M_order 36 = .ok (.if_icmp .ne 59, 3) := by decide +kernel
theorem d_M_order_39 : decode b_M_order 39 = .ok (.aload_n 0, 1) := by decide +kernel
theorem d_M_order_40 : decode b_M_order 40 = .ok (.aload_n 0, 1) := by decide +kernel
theorem d_M_order_41 : decode b_M_order 41 = .ok (.aload_n 0, 1) := by decide +kernel
theorem d_M_order_42 : decode b_M_order 42 = .ok (.getfield 170, 3) := by decide +kernel
theorem d_M_order_45 : decode b_M_order 45 = .ok (.iconst 0, 1) := by decide +kernel
theorem d_M_order_46 : decode b_M_order 46 = .ok (.invokevirtual 262, 3) := by decide +kernel
theorem d_M_order_49 : decode b_M_order 49 = .ok (.invokevirtual 235, 3) := by decide +kernel
theorem d_M_order_52 : decode b_M_order 52 = .ok (.ifCond .eq 43, 3) := by decide +kernel
theorem d_M_order_55 : decode b_M_order 55 = .ok (.aload_n 0, 1) := by decide +kernel
theorem d_M_order_56 : decode b_M_order 56 = .ok (.iload_n 1, 1) := by decide +kernel
theorem d_M_order_57 : decode b_M_order 57 = .ok (.bipush 7, 2) := by decide +kernel
theorem d_M_order_59 : decode b_M_order 59 = .ok (.invokevirtual 177, 3) := by decide +kernel
theorem d_M_order_62 : decode b_M_order 62 = .ok (.ifCond .eq 33, 3) := by decide +kernel
theorem d_M_order_65 : decode b_M_order 65 = .ok (.iload_n 1, 1) := by decide +kernel
theorem d_M_order_66 : decode b_M_order 66 = .ok (.iconst 1, 1) := by decide +kernel
theorem d_M_order_67 : decode b_M_order 67 = .ok (.iadd, 1) := by decide +kernel
theorem d_M_order_68 : decode b_M_order 68 = .ok (.aload_n 0, 1) := by decide +kernel
theorem d_M_order_69 : decode b_M_order 69 = .ok (.getfield 157, 3) := by decide +kernel
theorem d_M_order_72 : decode b_M_order 72 = .ok (.if_icmp .ge 23, 3) := by decide +kernel
theorem d_M_order_75 : decode b_M_order 75 = .ok (.aload_n 0, 1) := by decide +kernel
theorem d_M_order_76 : decode b_M_order 76 = .ok (.aload_n 0, 1) := by decide +kernel
theorem d_M_order_77 : decode b_M_order 77 = .ok (.aload_n 0, 1) := by decide +kernel
theorem d_M_order_78 : decode b_M_order 78 = .ok (.getfield 170, 3) := by decide +kernel
theorem d_M_order_81 : decode b_M_order 81 = .ok (.iconst 0, 1) := by decide +kernel
theorem d_M_order_82 : decode b_M_order 82 = .ok (.invokevirtual 262, 3) := by decide +kernel
theorem d_M_order_85 : decode b_M_order 85 = .ok (.putfield 103, 3) := by decide +kernel
theorem d_M_order_88 : decode b_M_order 88 = .ok (.aload_n 0, 1) := by decide +kernel
theorem d_M_order_89 : decode b_M_order 89 = .ok (.iload_n 1, 1) := by decide +kernel
theorem d_M_order_90 : decode b_M_order 90 = .ok (.iconst 1, 1) := by decide +kernel
theorem d_M_order_91 : decode b_M_order 91 = .ok (.iadd, 1) := by decide +kernel
theorem d_M_order_92 : decode b_M_order 92 = .ok (.invokevirtual 299, 3) := by decide +kernel
theorem d_M_order_95 : decode b_M_order 95 = .ok (.return_, 1) := by decide +kernel
theorem d_M_begins_0 : decode b_M_begins 0 = .ok (.aload_n 0, 1) := by decide +kernel
theorem d_M_begins_1 : decode b_M_begins 1 = .ok (.iconst 1, 1) := by decide +kernel
theorem d_M_begins_2 : decode b_M_begins 2 = .ok (.putfield 296, 3) := by decide +kernel
theorem d_M_begins_5 : decode b_M_begins 5 = .ok (.aload_n 0, 1) := by decide +kernel
theorem d_M_begins_6 : decode b_M_begins 6 = .ok (.iconst 0, 1) := by decide +kernel
theorem d_M_begins_7 : decode b_M_begins 7 = .ok (.putfield 293, 3) := by decide +kernel
theorem d_M_begins_10 : decode b_M_begins 10 = .ok (.aload_n 0, 1) := by decide +kernel
theorem d_M_begins_11 : decode b_M_begins 11 = .ok (.iconst 0, 1) := by decide +kernel
theorem d_M_begins_12 : decode b_M_begins 12 = .ok (.putfield 286, 3) := by decide +kernel
theorem d_M_begins_15 : decode b_M_begins 15 = .ok (.return_, 1) := by decide +kernel
theorem d_M_fails_0 : decode b_M_fails 0 = .ok (.aload_n 0, 1) := by decide +kernel
theorem d_M_fails_1 : decode b_M_fails 1 = .ok (.iload_n 1, 1) := by decide +kernel
theorem d_M_fails_2 : decode b_M_fails 2 = .ok (.putfield 180, 3) := by decide +kernel
theorem d_M_fails_5 : decode b_M_fails 5 = .ok (.aload_n 0, 1) := by decide +kernel
theorem d_M_fails_6 : decode b_M_fails 6 = .ok (.iload_n 2, 1) := by decide +kernel
theorem d_M_fails_7 : decode b_M_fails 7 = .ok (.putfield 183, 3) := by decide +kernel
theorem d_M_fails_10 : decode b_M_fails 10 = .ok (.return_, 1) := by decide +kernel
theorem d_M_others_0 : decode b_M_others 0 = .ok (.iconst 0, 1) := by decide +kernel
theorem d_M_others_1 : decode b_M_others 1 = .ok (.istore_n 1, 1) := by decide +kernel
theorem d_M_others_2 : decode b_M_others 2 = .ok (.iload_n 1, 1) := by decide +kernel
theorem d_M_others_3 : decode b_M_others 3 = .ok (.aload_n 0, 1) := by decide +kernel
theorem d_M_others_4 : decode b_M_others 4 = .ok (.getfield 186, 3) := by decide +kernel
theorem d_M_others_7 : decode b_M_others 7 = .ok (.if_icmp .ge 91, 3) := by decide +kernel
theorem d_M_others_10 : decode b_M_others 10 = .ok (.aload_n 0, 1) := by decide +kernel
theorem d_M_others_11 : decode b_M_others 11 = .ok (.getfield 180, 3) := by decide +kernel
theorem d_M_others_14 : decode b_M_others 14 = .ok (.ifCond .ne 84, 3) := by decide +kernel
theorem d_M_others_17 : decode b_M_others 17 = .ok (.aload_n 0, 1) := by decide +kernel
theorem d_M_others_18 : decode b_M_others 18 = .ok (.getfield 65, 3) := by decide +kernel
theorem d_M_others_21 : decode b_M_others 21 = .ok (.iload_n 1, 1) := by decide +kernel
theorem d_M_others_22 : decode b_M_others 22 = .ok (.iaload, 1) := by decide +kernel
theorem d_M_others_23 : decode b_M_others 23 = .ok (.bipush 8, 2) := by decide +kernel
theorem d_M_others_25 : decode b_M_others 25 = .ok (.if_icmp .ne 67, 3) := by decide +kernel
theorem d_M_others_28 : decode b_M_others 28 = .ok (.aload_n 0, 1) := by decide +kernel
theorem d_M_others_29 : decode b_M_others 29 = .ok (.getfield 186, 3) := by decide +kernel
theorem d_M_others_32 : decode b_M_others 32 = .ok (.iconst 2, 1) := by decide +kernel
theorem d_M_others_33 : decode b_M_others 33 = .ok (.if_icmp .ne 59, 3) := by decide +kernel
theorem d_M_others_36 : decode b_M_others 36 = .ok (.aload_n 0, 1) := by decide +kernel
theorem d_M_others_37 : decode b_M_others 37 = .ok (.getfield 65, 3) := by decide +kernel
theorem d_M_others_40 : decode b_M_others 40 = .ok (.iconst 1, 1) := by decide +kernel
theorem d_M_others_41 : decode b_M_others 41 = .ok (.iload_n 1, 1) := by decide +kernel
theorem d_M_others_42 : decode b_M_others 42 = .ok (.isub, 1) := by decide +kernel
theorem d_M_others_43 : decode b_M_others 43 = .ok (.iaload, 1) := by decide +kernel
theorem d_M_others_44 : decode b_M_others 44 = .ok (.iconst 5, 1) := by decide +kernel
theorem d_M_others_45 : decode b_M_others 45 = .ok (.if_icmp .gt 47, 3) := by decide +kernel
theorem d_M_others_48 : decode b_M_others 48 = .ok (.aload_n 0, 1) := by decide +kernel
theorem d_M_others_49 : decode b_M_others 49 = .ok (.getfield 71, 3) := by decide +kernel
theorem d_M_others_52 : decode b_M_others 52 = .ok (.iload_n 1, 1) := by decide +kernel
theorem d_M_others_53 : decode b_M_others 53 = .ok (.dup2, 1) := by decide +kernel
theorem d_M_others_54 : decode b_M_others 54 = .ok (.laload, 1) := by decide +kernel
theorem d_M_others_55 : decode b_M_others 55 = .ok (.aload_n 0, 1) := by decide +kernel
theorem d_M_others_56 : decode b_M_others 56 = .ok (.getfield 71, 3) := by decide +kernel
theorem d_M_others_59 : decode b_M_others 59 = .ok (.iconst 1, 1) := by decide +kernel
theorem d_M_others_60 : decode b_M_others 60 = .ok (.iload_n 1, 1) := by decide +kernel
theorem d_M_others_61 : decode b_M_others 61 = .ok (.isub, 1) := by decide +kernel
theorem d_M_others_62 : decode b_M_others 62 = .ok (.laload, 1) := by decide +kernel
theorem d_M_others_63 : decode b_M_others 63 = .ok (.ldc2_w 248, 3) := by decide +kernel
theorem d_M_others_66 : decode b_M_others 66 = .ok (.lxor, 1) := by decide +kernel
theorem d_M_others_67 : decode b_M_others 67 = .ok (.land, 1) := by decide +kernel
theorem d_M_others_68 : decode b_M_others 68 = .ok (.lastore, 1) := by decide +kernel
theorem d_M_others_69 : decode b_M_others 69 = .ok (.aload_n 0, 1) := by decide +kernel
theorem d_M_others_70 : decode b_M_others 70 = .ok (.getfield 71, 3) := by decide +kernel
theorem d_M_others_73 : decode b_M_others 73 = .ok (.iload_n 1, 1) := by decide +kernel
theorem d_M_others_74 : decode b_M_others 74 = .ok (.laload, 1) := by decide +kernel
theorem d_M_others_75 : decode b_M_others 75 = .ok (.lconst 0, 1) := by decide +kernel
theorem d_M_others_76 : decode b_M_others 76 = .ok (.lcmp, 1) := by decide +kernel
theorem d_M_others_77 : decode b_M_others 77 = .ok (.ifCond .ne 15, 3) := by decide +kernel
theorem d_M_others_80 : decode b_M_others 80 = .ok (.aload_n 0, 1) := by decide +kernel
theorem d_M_others_81 : decode b_M_others 81 = .ok (.bipush 14, 2) := by decide +kernel
theorem d_M_others_83 : decode b_M_others 83 = .ok (.aload_n 0, 1) := by decide +kernel
theorem d_M_others_84 : decode b_M_others 84 = .ok (.getfield 68, 3) := by decide +kernel
theorem d_M_others_87 : decode b_M_others 87 = .ok (.iload_n 1, 1) := by decide +kernel
theorem d_M_others_88 : decode b_M_others 88 = .ok (.iaload, 1) := by decide +kernel
theorem d_M_others_89 : decode b_M_others 89 = .ok (.invokevirtual 205, 3) := by decide +kernel
theorem d_M_others_92 : decode b_M_others 92 = .ok (.iinc 1 1, 3) := by decide +kernel
theorem d_M_others_95 : decode b_M_others 95 = .ok (.goto (-93), 3) := by decide +kernel
theorem d_M_others_98 : decode b_M_others 98 = .ok (.return_, 1) := by decide +kernel
theorem d_M_slot_0 : decode b_M_slot 0 = .ok (.aload_n 0, 1) := by decide +kernel
theorem d_M_slot_1 : decode b_M_slot 1 = .ok (.getfield 65, 3) := by decide +kernel
theorem d_M_slot_4 : decode b_M_slot 4 = .ok (.aload_n 0, 1) := by decide +kernel
theorem d_M_slot_5 : decode b_M_slot 5 = .ok (.getfield 186, 3) := by decide +kernel
theorem d_M_slot_8 : decode b_M_slot 8 = .ok (.iload_n 1, 1) := by decide +kernel
theorem d_M_slot_9 : decode b_M_slot 9 = .ok (.iastore, 1) := by decide +kernel
theorem d_M_slot_10 : decode b_M_slot 10 = .ok (.aload_n 0, 1) := by decide +kernel
theorem d_M_slot_11 : decode b_M_slot 11 = .ok (.getfield 68, 3) := by decide +kernel
theorem d_M_slot_14 : decode b_M_slot 14 = .ok (.aload_n 0, 1) := by decide +kernel
theorem d_M_slot_15 : decode b_M_slot 15 = .ok (.getfield 186, 3) := by decide +kernel
theorem d_M_slot_18 : decode b_M_slot 18 = .ok (.iload_n 2, 1) := by decide +kernel
theorem d_M_slot_19 : decode b_M_slot 19 = .ok (.iastore, 1) := by decide +kernel
theorem d_M_slot_20 : decode b_M_slot 20 = .ok (.aload_n 0, 1) := by decide +kernel
theorem d_M_slot_21 : decode b_M_slot 21 = .ok (.getfield 71, 3) := by decide +kernel
theorem d_M_slot_24 : decode b_M_slot 24 = .ok (.aload_n 0, 1) := by decide +kernel
theorem d_M_slot_25 : decode b_M_slot 25 = .ok (.getfield 186, 3) := by decide +kernel
theorem d_M_slot_28 : decode b_M_slot 28 = .ok (.lconst 0, 1) := by decide +kernel
theorem d_M_slot_29 : decode b_M_slot 29 = .ok (.lastore, 1) := by decide +kernel
theorem d_M_slot_30 : decode b_M_slot 30 = .ok (.aload_n 0, 1) := by decide +kernel
theorem d_M_slot_31 : decode b_M_slot 31 = .ok (.dup, 1) := by decide +kernel
theorem d_M_slot_32 : decode b_M_slot 32 = .ok (.getfield 186, 3) := by decide +kernel
theorem d_M_slot_35 : decode b_M_slot 35 = .ok (.iconst 1, 1) := by decide +kernel
theorem d_M_slot_36 : decode b_M_slot 36 = .ok (.iadd, 1) := by decide +kernel
theorem d_M_slot_37 : decode b_M_slot 37 = .ok (.putfield 186, 3) := by decide +kernel
theorem d_M_slot_40 : decode b_M_slot 40 = .ok (.return_, 1) := by decide +kernel
theorem d_M_next_0 : decode b_M_next 0 = .ok (.iload_n 2, 1) := by decide +kernel
theorem d_M_next_1 : decode b_M_next 1 = .ok (.iconst 1, 1) := by decide +kernel
theorem d_M_next_2 : decode b_M_next 2 = .ok (.iadd, 1) := by decide +kernel
theorem d_M_next_3 : decode b_M_next 3 = .ok (.istore_n 3, 1) := by decide +kernel
theorem d_M_next_4 : decode b_M_next 4 = .ok (.iload_n 3, 1) := by decide +kernel
theorem d_M_next_5 : decode b_M_next 5 = .ok (.aload_n 0, 1) := by decide +kernel
theorem d_M_next_6 : decode b_M_next 6 = .ok (.getfield 26, 3) := by decide +kernel
theorem d_M_next_9 : decode b_M_next 9 = .ok (.iload_n 1, 1) := by decide +kernel
theorem d_M_next_10 : decode b_M_next 10 = .ok (.iaload, 1) := by decide +kernel
theorem d_M_next_11 : decode b_M_next 11 = .ok (.if_icmp .ge 24, 3) := by decide +kernel
theorem d_M_next_14 : decode b_M_next 14 = .ok (.aload_n 0, 1) := by decide +kernel
theorem d_M_next_15 : decode b_M_next 15 = .ok (.getfield 29, 3) := by decide +kernel
theorem d_M_next_18 : decode b_M_next 18 = .ok (.bipush 8, 2) := by decide +kernel
theorem d_M_next_20 : decode b_M_next 20 = .ok (.iload_n 1, 1) := by decide +kernel
theorem d_M_next_21 : decode b_M_next 21 = .ok (.imul, 1) := by decide +kernel
theorem d_M_next_22 : decode b_M_next 22 = .ok (.iload_n 3, 1) := by decide +kernel
theorem d_M_next_23 : decode b_M_next 23 = .ok (.iadd, 1) := by decide +kernel
theorem d_M_next_24 : decode b_M_next 24 = .ok (.iaload, 1) := by decide +kernel
theorem d_M_next_25 : decode b_M_next 25 = .ok (.iconst 1, 1) := by decide +kernel
theorem d_M_next_26 : decode b_M_next 26 = .ok (.if_icmp .ne 9, 3) := by decide +kernel
theorem d_M_next_29 : decode b_M_next 29 = .ok (.iinc 3 1, 3) := by decide +kernel
theorem d_M_next_32 : decode b_M_next 32 = .ok (.goto (-28), 3) := by decide +kernel
theorem d_M_next_35 : decode b_M_next 35 = .ok (.iload_n 3, 1) := by decide +kernel
theorem d_M_next_36 : decode b_M_next 36 = .ok (.ireturn, 1) := by decide +kernel
theorem d_M_isOneOf_0 : decode b_M_isOneOf 0 = .ok (.iconst 0, 1) := by decide +kernel
theorem d_M_isOneOf_1 : decode b_M_isOneOf 1 = .ok (.istore 4, 2) := by decide +kernel
theorem d_M_isOneOf_3 : decode b_M_isOneOf 3 = .ok (.iload_n 2, 1) := by decide +kernel
theorem d_M_isOneOf_4 : decode b_M_isOneOf 4 = .ok (.istore 5, 2) := by decide +kernel
theorem d_M_isOneOf_6 : decode b_M_isOneOf 6 = .ok (.iload 5, 2) := by decide +kernel
theorem d_M_isOneOf_8 : decode b_M_isOneOf 8 = .ok (.aload_n 0, 1) := by decide +kernel
theorem d_M_isOneOf_9 : decode b_M_isOneOf 9 = .ok (.iload_n 1, 1) := by decide +kernel
theorem d_M_isOneOf_10 : decode b_M_isOneOf 10 = .ok (.iload_n 2, 1) := by decide +kernel
theorem d_M_isOneOf_11 : decode b_M_isOneOf 11 = .ok (.invokevirtual 189, 3) := by decide +kernel
theorem d_M_isOneOf_14 : decode b_M_isOneOf 14 = .ok (.if_icmp .ge 37, 3) := by decide +kernel
theorem d_M_isOneOf_17 : decode b_M_isOneOf 17 = .ok (.iload 4, 2) := by decide +kernel
theorem d_M_isOneOf_19 : decode b_M_isOneOf 19 = .ok (.ifCond .ne 19, 3) := by decide +kernel
theorem d_M_isOneOf_22 : decode b_M_isOneOf 22 = .ok (.aload_n 0, 1) := by decide +kernel
theorem d_M_isOneOf_23 : decode b_M_isOneOf 23 = .ok (.getfield 32, 3) := by decide +kernel
theorem d_M_isOneOf_26 : decode b_M_isOneOf 26 = .ok (.bipush 8, 2) := by decide +kernel
theorem d_M_isOneOf_28 : decode b_M_isOneOf 28 = .ok (.iload_n 1, 1) := by decide +kernel
theorem d_M_isOneOf_29 : decode b_M_isOneOf 29 = .ok (.imul, 1) := by decide +kernel
theorem d_M_isOneOf_30 : decode b_M_isOneOf 30 = .ok (.iload 5, 2) := by decide +kernel
theorem d_M_isOneOf_32 : decode b_M_isOneOf 32 = .ok (.iadd, 1) := by decide +kernel
theorem d_M_isOneOf_33 : decode b_M_isOneOf 33 = .ok (.iaload, 1) := by decide +kernel
theorem d_M_isOneOf_34 : decode b_M_isOneOf 34 = .ok (.iload_n 3, 1) := by decide +kernel
theorem d_M_isOneOf_35 : decode b_M_isOneOf 35 = .ok (.if_icmp .ne 7, 3) := by decide +kernel
theorem d_M_isOneOf_38 : decode b_M_isOneOf 38 = .ok (.iconst 1, 1) := by decide +kernel
theorem d_M_isOneOf_39 : decode b_M_isOneOf 39 = .ok (.goto 4, 3) := by decide +kernel
theorem d_M_isOneOf_42 : decode b_M_isOneOf 42 = .ok (.iconst 0, 1) := by decide +kernel
theorem d_M_isOneOf_43 : decode b_M_isOneOf 43 = .ok (.istore 4, 2) := by decide +kernel
theorem d_M_isOneOf_45 : decode b_M_isOneOf 45 = .ok (.iinc 5 1, 3) := by decide +kernel
theorem d_M_isOneOf_48 : decode b_M_isOneOf 48 = .ok (.goto (-42), 3) := by decide +kernel
theorem d_M_isOneOf_51 : decode b_M_isOneOf 51 = .ok (.iload 4, 2) := by decide +kernel
theorem d_M_isOneOf_53 : decode b_M_isOneOf 53 = .ok (.ireturn, 1) := by decide +kernel
theorem d_M_takesTopic_0 : decode b_M_takesTopic 0 = .ok (.aload_n 0, 1) := by decide +kernel
theorem d_M_takesTopic_1 : decode b_M_takesTopic 1 = .ok (.iload_n 1, 1) := by decide +kernel
theorem d_M_takesTopic_2 : decode b_M_takesTopic 2 = .ok (.iload_n 2, 1) := by decide +kernel
theorem d_M_takesTopic_3 : decode b_M_takesTopic 3 = .ok (.invokevirtual 189, 3) := by decide +kernel
theorem d_M_takesTopic_6 : decode b_M_takesTopic 6 = .ok (.istore 4, 2) := by decide +kernel
theorem d_M_takesTopic_8 : decode b_M_takesTopic 8 = .ok (.iload_n 3, 1) := by decide +kernel
theorem d_M_takesTopic_9 : decode b_M_takesTopic 9 = .ok (.iconst 1, 1) := by decide +kernel
theorem d_M_takesTopic_10 : decode b_M_takesTopic 10 = .ok (.iadd, 1) := by decide +kernel
theorem d_M_takesTopic_11 : decode b_M_takesTopic 11 = .ok (.istore 5, 2) := by decide +kernel
theorem d_M_takesTopic_13 : decode b_M_takesTopic 13 = .ok (.iload 5, 2) := by decide +kernel
theorem d_M_takesTopic_15 : decode b_M_takesTopic 15 = .ok (.aload_n 0, 1) := by decide +kernel
theorem d_M_takesTopic_16 : decode b_M_takesTopic 16 = .ok (.getfield 167, 3) := by decide +kernel
theorem d_M_takesTopic_19 : decode b_M_takesTopic 19 = .ok (.if_icmp .ge 37, 3) := by decide +kernel
theorem d_M_takesTopic_22 : decode b_M_takesTopic 22 = .ok (.iload 4, 2) := by decide +kernel
theorem d_M_takesTopic_24 : decode b_M_takesTopic 24 = .ok (.aload_n 0, 1) := by decide +kernel
theorem d_M_takesTopic_25 : decode b_M_takesTopic 25 = .ok (.getfield 26, 3) := by decide +kernel
theorem d_M_takesTopic_28 : decode b_M_takesTopic 28 = .ok (.iload_n 1, 1) := by decide +kernel
theorem d_M_takesTopic_29 : decode b_M_takesTopic 29 = .ok (.iaload, 1) := by decide +kernel
theorem d_M_takesTopic_30 : decode b_M_takesTopic 30 = .ok (.if_icmp .ge 20, 3) := by decide +kernel
theorem d_M_takesTopic_33 : decode b_M_takesTopic 33 = .ok (.aload_n 0, 1) := by decide +kernel
theorem d_M_takesTopic_34 : decode b_M_takesTopic 34 = .ok (.iload_n 1, 1) := by decide +kernel
theorem d_M_takesTopic_35 : decode b_M_takesTopic 35 = .ok (.iload 4, 2) := by decide +kernel
theorem d_M_takesTopic_37 : decode b_M_takesTopic 37 = .ok (.aload_n 0, 1) := by decide +kernel
theorem d_M_takesTopic_38 : decode b_M_takesTopic 38 = .ok (.getfield 56, 3) := by decide +kernel
theorem d_M_takesTopic_41 : decode b_M_takesTopic 41 = .ok (.iload 5, 2) := by decide +kernel
theorem d_M_takesTopic_43 : decode b_M_takesTopic 43 = .ok (.iaload, 1) := by decide +kernel
theorem d_M_takesTopic_44 : decode b_M_takesTopic 44 = .ok (.invokevirtual 211, 3) := by decide +kernel
theorem d_M_takesTopic_47 : decode b_M_takesTopic 47 = .ok (.ifCond .ne 9, 3) := by decide +kernel
theorem d_M_takesTopic_50 : decode b_M_takesTopic 50 = .ok (.iinc 5 1, 3) := by decide +kernel
theorem d_M_takesTopic_53 : decode b_M_takesTopic 53 = .ok (.goto (-40), 3) := by decide +kernel
theorem d_M_takesTopic_56 : decode b_M_takesTopic 56 = .ok (.aload_n 0, 1) := by decide +kernel
theorem d_M_takesTopic_57 : decode b_M_takesTopic 57 = .ok (.getfield 75, 3) := by decide +kernel
theorem d_M_takesTopic_60 : decode b_M_takesTopic 60 = .ok (.aload_n 0, 1) := by decide +kernel
theorem d_M_takesTopic_61 : decode b_M_takesTopic 61 = .ok (.getfield 186, 3) := by decide +kernel
theorem d_M_takesTopic_64 : decode b_M_takesTopic 64 = .ok (.iconst 1, 1) := by decide +kernel
theorem d_M_takesTopic_65 : decode b_M_takesTopic 65 = .ok (.isub, 1) := by decide +kernel
theorem d_M_takesTopic_66 : decode b_M_takesTopic 66 = .ok (.iload_n 3, 1) := by decide +kernel
theorem d_M_takesTopic_67 : decode b_M_takesTopic 67 = .ok (.iastore, 1) := by decide +kernel
theorem d_M_takesTopic_68 : decode b_M_takesTopic 68 = .ok (.aload_n 0, 1) := by decide +kernel
theorem d_M_takesTopic_69 : decode b_M_takesTopic 69 = .ok (.getfield 78, 3) := by decide +kernel
theorem d_M_takesTopic_72 : decode b_M_takesTopic 72 = .ok (.aload_n 0, 1) := by decide +kernel
theorem d_M_takesTopic_73 : decode b_M_takesTopic 73 = .ok (.getfield 186, 3) := by decide +kernel
theorem d_M_takesTopic_76 : decode b_M_takesTopic 76 = .ok (.iconst 1, 1) := by decide +kernel
theorem d_M_takesTopic_77 : decode b_M_takesTopic 77 = .ok (.isub, 1) := by decide +kernel
theorem d_M_takesTopic_78 : decode b_M_takesTopic 78 = .ok (.iload 5, 2) := by decide +kernel
theorem d_M_takesTopic_80 : decode b_M_takesTopic 80 = .ok (.iastore, 1) := by decide +kernel
theorem d_M_takesTopic_81 : decode b_M_takesTopic 81 = .ok (.iload 5, 2) := by decide +kernel
theorem d_M_takesTopic_83 : decode b_M_takesTopic 83 = .ok (.ireturn, 1) := by decide +kernel
theorem d_M_isWorn_0 : decode b_M_isWorn 0 = .ok (.aload_n 0, 1) := by decide +kernel
theorem d_M_isWorn_1 : decode b_M_isWorn 1 = .ok (.getfield 35, 3) := by decide +kernel
theorem d_M_isWorn_4 : decode b_M_isWorn 4 = .ok (.iload_n 1, 1) := by decide +kernel
theorem d_M_isWorn_5 : decode b_M_isWorn 5 = .ok (.iaload, 1) := by decide +kernel
theorem d_M_isWorn_6 : decode b_M_isWorn 6 = .ok (.iconst 4, 1) := by decide +kernel
theorem d_M_isWorn_7 : decode b_M_isWorn 7 = .ok (.iand, 1) := by decide +kernel
theorem d_M_isWorn_8 : decode b_M_isWorn 8 = .ok (.ifCond .eq 7, 3) := by decide +kernel
theorem d_M_isWorn_11 : decode b_M_isWorn 11 = .ok (.iconst 1, 1) := by decide +kernel
theorem d_M_isWorn_12 : decode b_M_isWorn 12 = .ok (.goto 4, 3) := by decide +kernel
theorem d_M_isWorn_15 : decode b_M_isWorn 15 = .ok (.iconst 0, 1) := by decide +kernel
theorem d_M_isWorn_16 : decode b_M_isWorn 16 = .ok (.ireturn, 1) := by decide +kernel
theorem d_M_takesOne_0 : decode b_M_takesOne 0 = .ok (.aload_n 0, 1) := by decide +kernel
theorem d_M_takesOne_1 : decode b_M_takesOne 1 = .ok (.iload_n 2, 1) := by decide +kernel
theorem d_M_takesOne_2 : decode b_M_takesOne 2 = .ok (.iconst 4, 1) := by decide +kernel
theorem d_M_takesOne_3 : decode b_M_takesOne 3 = .ok (.invokevirtual 177, 3) := by decide +kernel
theorem d_M_takesOne_6 : decode b_M_takesOne 6 = .ok (.ifCond .eq 12, 3) := by decide +kernel
theorem d_M_takesOne_9 : decode b_M_takesOne 9 = .ok (.aload_n 0, 1) := by decide +kernel
theorem d_M_takesOne_10 : decode b_M_takesOne 10 = .ok (.bipush 13, 2) := by decide +kernel
theorem d_M_takesOne_12 : decode b_M_takesOne 12 = .ok (.iload_n 2, 1) := by decide +kernel
theorem d_M_takesOne_13 : decode b_M_takesOne 13 = .ok (.invokevirtual 205, 3) := by decide +kernel
theorem d_M_takesOne_16 : decode b_M_takesOne 16 = .ok (.iload_n 2, 1) := by decide +kernel
theorem d_M_takesOne_17 : decode b_M_takesOne 17 = .ok (.ireturn, 1) := by decide +kernel
theorem d_M_takesOne_18 : decode b_M_takesOne 18 = .ok (.aload_n 0, 1) := by decide +kernel
theorem d_M_takesOne_19 : decode b_M_takesOne 19 = .ok (.iload_n 2, 1) := by decide +kernel
theorem d_M_takesOne_20 : decode b_M_takesOne 20 = .ok (.invokevirtual 229, 3) := by decide +kernel
theorem d_M_takesOne_23 : decode b_M_takesOne 23 = .ok (.istore_n 3, 1) := by decide +kernel
theorem d_M_takesOne_24 : decode b_M_takesOne 24 = .ok (.iload_n 3, 1) := by decide +kernel
theorem d_M_takesOne_25 : decode b_M_takesOne 25 = .ok (.ifCond .ne 12, 3) := by decide +kernel
theorem d_M_takesOne_28 : decode b_M_takesOne 28 = .ok (.aload_n 0, 1) := by decide +kernel
theorem d_M_takesOne_29 : decode b_M_takesOne 29 = .ok (.bipush 7, 2) := by decide +kernel
theorem d_M_takesOne_31 : decode b_M_takesOne 31 = .ok (.iload_n 2, 1) := by decide +kernel
theorem d_M_takesOne_32 : decode b_M_takesOne 32 = .ok (.invokevirtual 205, 3) := by decide +kernel
theorem d_M_takesOne_35 : decode b_M_takesOne 35 = .ok (.iload_n 2, 1) := by decide +kernel
theorem d_M_takesOne_36 : decode b_M_takesOne 36 = .ok (.ireturn, 1) := by decide +kernel
theorem d_M_takesOne_37 : decode b_M_takesOne 37 = .ok (.lconst 0, 1) := by decide +kernel
theorem d_M_takesOne_38 : decode b_M_takesOne 38 = .ok (.lstore 4, 2) := by decide +kernel
theorem d_M_takesOne_40 : decode b_M_takesOne 40 = .ok (.iconst 0, 1) := by decide +kernel
theorem d_M_takesOne_41 : decode b_M_takesOne 41 = .ok (.istore 6, 2) := by decide +kernel
theorem d_M_takesOne_43 : decode b_M_takesOne 43 = .ok (.iload 6, 2) := by decide +kernel
theorem d_M_takesOne_45 : decode b_M_takesOne 45 = .ok (.aload_n 0, 1) := by decide +kernel
theorem d_M_takesOne_46 : decode b_M_takesOne 46 = .ok (.getfield 140, 3) := by decide +kernel
theorem d_M_takesOne_49 : decode b_M_takesOne 49 = .ok (.if_icmp .ge 94, 3) := by decide +kernel
theorem d_M_takesOne_52 : decode b_M_takesOne 52 = .ok (.iload_n 1, 1) := by decide +kernel
theorem d_M_takesOne_53 : decode b_M_takesOne 53 = .ok (.iconst 2, 1) := by decide +kernel
theorem d_M_takesOne_54 : decode b_M_takesOne 54 = .ok (.if_icmp .eq 45, 3) := by decide +kernel
theorem d_M_takesOne_57 : decode b_M_takesOne 57 = .ok (.iload_n 1, 1) := by decide +kernel
theorem d_M_takesOne_58 : decode b_M_takesOne 58 = .ok (.iconst 3, 1) := by decide +kernel
theorem d_M_takesOne_59 : decode b_M_takesOne 59 = .ok (.if_icmp .ne 12, 3) := by decide +kernel
theorem d_M_takesOne_62 : decode b_M_takesOne 62 = .ok (.aload_n 0, 1) := by decide +kernel
theorem d_M_takesOne_63 : decode b_M_takesOne 63 = .ok (.iload 6, 2) := by decide +kernel
theorem d_M_takesOne_65 : decode b_M_takesOne 65 = .ok (.invokevirtual 160, 3) := by decide +kernel
theorem d_M_takesOne_68 : decode b_M_takesOne 68 = .ok (.ifCond .ne 31, 3) := by decide +kernel
theorem d_M_takesOne_71 : decode b_M_takesOne 71 = .ok (.iload_n 1, 1) := by decide +kernel
theorem d_M_takesOne_72 : decode b_M_takesOne 72 = .ok (.iconst 4, 1) := by decide +kernel
theorem d_M_takesOne_73 : decode b_M_takesOne 73 = .ok (.if_icmp .ne 12, 3) := by decide +kernel
theorem d_M_takesOne_76 : decode b_M_takesOne 76 = .ok (.aload_n 0, 1) := by decide +kernel
theorem d_M_takesOne_77 : decode b_M_takesOne 77 = .ok (.iload 6, 2) := by decide +kernel
theorem d_M_takesOne_79 : decode b_M_takesOne 79 = .ok (.invokevirtual 232, 3) := by decide +kernel
theorem d_M_takesOne_82 : decode b_M_takesOne 82 = .ok (.ifCond .ne 17, 3) := by decide +kernel
theorem d_M_takesOne_85 : decode b_M_takesOne 85 = .ok (.iload_n 1, 1) := by decide +kernel
theorem d_M_takesOne_86 : decode b_M_takesOne 86 = .ok (.iconst 5, 1) := by decide +kernel
theorem d_M_takesOne_87 : decode b_M_takesOne 87 = .ok (.if_icmp .ne 16, 3) := by decide +kernel
theorem d_M_takesOne_90 : decode b_M_takesOne 90 = .ok (.aload_n 0, 1) := by decide +kernel
theorem d_M_takesOne_91 : decode b_M_takesOne 91 = .ok (.iload 6, 2) := by decide +kernel
theorem d_M_takesOne_93 : decode b_M_takesOne 93 = .ok (.invokevirtual 235, 3) := by decide +kernel
theorem d_M_takesOne_96 : decode b_M_takesOne 96 = .ok (.ifCond .eq 7, 3) := by decide +kernel
theorem d_M_takesOne_99 : decode b_M_takesOne 99 = .ok (.iconst 1, 1) := by decide +kernel
theorem d_M_takesOne_100 : decode b_M_takesOne 100 = .ok (.goto 4, 3) := by decide +kernel
theorem d_M_takesOne_103 : decode b_M_takesOne 103 = .ok (.iconst 0, 1) := by decide +kernel
theorem d_M_takesOne_104 : decode b_M_takesOne 104 = .ok (.istore 7, 2) := by decide +kernel
theorem d_M_takesOne_106 : decode b_M_takesOne 106 = .ok (.iload 7, 2) := by decide +kernel
theorem d_M_takesOne_108 : decode b_M_takesOne 108 = .ok (.ifCond .eq 25, 3) := by decide +kernel
theorem d_M_takesOne_111 : decode b_M_takesOne 111 = .ok (.aload_n 0, 1) := by decide +kernel
theorem d_M_takesOne_112 : decode b_M_takesOne 112 = .ok (.getfield 170, 3) := by decide +kernel
theorem d_M_takesOne_115 : decode b_M_takesOne 115 = .ok (.iload 6, 2) := by decide +kernel
theorem d_M_takesOne_117 : decode b_M_takesOne 117 = .ok (.invokestatic 163, 3) := by decide +kernel
theorem d_M_takesOne_120 : decode b_M_takesOne 120 = .ok (.ifCond .eq 13, 3) := by decide +kernel
theorem d_M_takesOne_123 : decode b_M_takesOne 123 = .ok (.lload 4, 2) := by decide +kernel
theorem d_M_takesOne_125 : decode b_M_takesOne 125 = .ok (.lconst 1, 1) := by decide +kernel
theorem d_M_takesOne_126 : decode b_M_takesOne 126 = .ok (.iload 6, 2) := by decide +kernel
theorem d_M_takesOne_128 : decode b_M_takesOne 128 = .ok (.lshl, 1) := by decide +kernel
theorem d_M_takesOne_129 : decode b_M_takesOne 129 = .ok (.lor, 1) := by decide +kernel
theorem d_M_takesOne_130 : decode b_M_takesOne 130 = .ok (.goto 5, 3) := by decide +kernel
theorem d_M_takesOne_133 : decode b_M_takesOne 133 = .ok (.lload 4, 2) := by decide +kernel
theorem d_M_takesOne_135 : decode b_M_takesOne 135 = .ok (.lstore 4, 2) := by decide +kernel
theorem d_M_takesOne_137 : decode b_M_takesOne 137 = .ok (.iinc 6 1, 3) := by decide +kernel
theorem d_M_takesOne_140 : decode b_M_takesOne 140 = .ok (.goto (-97), 3) := by decide +kernel
theorem d_M_takesOne_143 : decode b_M_takesOne 143 = .ok (.aload_n 0, 1) := by decide +kernel
theorem d_M_takesOne_144 : decode b_M_takesOne 144 = .ok (.lload 4, 2) := by decide +kernel
theorem d_M_takesOne_146 : decode b_M_takesOne 146 = .ok (.invokevirtual 238, 3) := by decide +kernel
theorem d_M_takesOne_149 : decode b_M_takesOne 149 = .ok (.istore 6, 2) := by decide +kernel
theorem d_M_takesOne_151 : decode b_M_takesOne 151 = .ok (.iload 6, 2) := by decide +kernel
theorem d_M_takesOne_153 : decode b_M_takesOne 153 = .ok (.ifCond .ne 33, 3) := by decide +kernel
theorem d_M_takesOne_156 : decode b_M_takesOne 156 = .ok (.aload_n 0, 1) := by decide +kernel
theorem d_M_takesOne_157 : decode b_M_takesOne 157 = .ok (.iload_n 1, 1) := by decide +kernel
theorem d_M_takesOne_158 : decode b_M_takesOne 158 = .ok (.iconst 3, 1) := by decide +kernel
theorem d_M_takesOne_159 : decode b_M_takesOne 159 = .ok (.if_icmp .ne 8, 3) := by decide +kernel
theorem d_M_takesOne_162 : decode b_M_takesOne 162 = .ok (.bipush 11, 2) := by decide +kernel
theorem d_M_takesOne_164 : decode b_M_takesOne 164 = .ok (.goto 15, 3) := by decide +kernel
theorem d_M_takesOne_167 : decode b_M_takesOne 167 = .ok (.iload_n 1, 1) := by decide +kernel
theorem d_M_takesOne_168 : decode b_M_takesOne 168 = .ok (.iconst 4, 1) := by decide +kernel
theorem d_M_takesOne_169 : decode b_M_takesOne 169 = .ok (.if_icmp .ne 8, 3) := by decide +kernel
theorem d_M_takesOne_172 : decode b_M_takesOne 172 = .ok (.bipush 12, 2) := by decide +kernel
theorem d_M_takesOne_174 : decode b_M_takesOne 174 = .ok (.goto 5, 3) := by decide +kernel
theorem d_M_takesOne_177 : decode b_M_takesOne 177 = .ok (.bipush 10, 2) := by decide +kernel
theorem d_M_takesOne_179 : decode b_M_takesOne 179 = .ok (.iload_n 2, 1) := by decide +kernel
theorem d_M_takesOne_180 : decode b_M_takesOne 180 = .ok (.invokevirtual 205, 3) := by decide +kernel
theorem d_M_takesOne_183 : decode b_M_takesOne 183 = .ok (.goto 48, 3) := by decide +kernel
theorem d_M_takesOne_186 : decode b_M_takesOne 186 = .ok (.iload 6, 2) := by decide +kernel
theorem d_M_takesOne_188 : decode b_M_takesOne 188 = .ok (.iconst 1, 1) := by decide +kernel
theorem d_M_takesOne_189 : decode b_M_takesOne 189 = .ok (.if_icmp .le 26, 3) := by decide +kernel
theorem d_M_takesOne_192 : decode b_M_takesOne 192 = .ok (.aload_n 0, 1) := by decide +kernel
theorem d_M_takesOne_193 : decode b_M_takesOne 193 = .ok (.bipush 15, 2) := by decide +kernel
theorem d_M_takesOne_195 : decode b_M_takesOne 195 = .ok (.iload_n 2, 1) := by decide +kernel
theorem d_M_takesOne_196 : decode b_M_takesOne 196 = .ok (.invokevirtual 205, 3) := by decide +kernel
theorem d_M_takesOne_199 : decode b_M_takesOne 199 = .ok (.aload_n 0, 1) := by decide +kernel
theorem d_M_takesOne_200 : decode b_M_takesOne 200 = .ok (.lload 4, 2) := by decide +kernel
theorem d_M_takesOne_202 : decode b_M_takesOne 202 = .ok (.putfield 242, 3) := by decide +kernel
theorem d_M_takesOne_205 : decode b_M_takesOne 205 = .ok (.aload_n 0, 1) := by decide +kernel
theorem d_M_takesOne_206 : decode b_M_takesOne 206 = .ok (.iload_n 2, 1) := by decide +kernel
theorem d_M_takesOne_207 : decode b_M_takesOne 207 = .ok (.iload_n 3, 1) := by decide +kernel
theorem d_M_takesOne_208 : decode b_M_takesOne 208 = .ok (.iadd, 1) := by decide +kernel
theorem d_M_takesOne_209 : decode b_M_takesOne 209 = .ok (.putfield 245, 3) := by decide +kernel
theorem d_M_takesOne_212 : decode b_M_takesOne 212 = .ok (.goto 19, 3) := by decide +kernel
theorem d_M_takesOne_215 : decode b_M_takesOne 215 = .ok (.aload_n 0, 1) := by decide +kernel
theorem d_M_takesOne_216 : decode b_M_takesOne 216 = .ok (.getfield 71, 3) := by decide +kernel
theorem d_M_takesOne_219 : decode b_M_takesOne 219 = .ok (.aload_n 0, 1) := by decide +kernel
theorem d_M_takesOne_220 : decode b_M_takesOne 220 = .ok (.getfield 186, 3) := by decide +kernel
theorem d_M_takesOne_223 : decode b_M_takesOne 223 = .ok (.iconst 1, 1) := by decide +kernel
theorem d_M_takesOne_224 : decode b_M_takesOne 224 = .ok (.isub, 1) := by decide +kernel
theorem d_M_takesOne_225 : decode b_M_takesOne 225 = .ok (.dup2, 1) := by decide +kernel
theorem d_M_takesOne_226 : decode b_M_takesOne 226 = .ok (.laload, 1) := by decide +kernel
theorem d_M_takesOne_227 : decode b_M_takesOne 227 = .ok (.lload 4, 2) := by decide +kernel
theorem d_M_takesOne_229 : decode b_M_takesOne 229 = .ok (.lor, 1) := by decide +kernel
theorem d_M_takesOne_230 : decode b_M_takesOne 230 = .ok (.lastore, 1) := by decide +kernel
theorem d_M_takesOne_231 : decode b_M_takesOne 231 = .ok (.iload_n 2, 1) := by decide +kernel
theorem d_M_takesOne_232 : decode b_M_takesOne 232 = .ok (.iload_n 3, 1) := by decide +kernel
theorem d_M_takesOne_233 : decode b_M_takesOne 233 = .ok (.iadd, 1) := by decide +kernel
theorem d_M_takesOne_234 : decode b_M_takesOne 234 = .ok (.ireturn, 1) := by decide +kernel
theorem d_M_joins_0 : decode b_M_joins 0 = .ok (.aload_n 0, 1) := by decide +kernel
theorem d_M_joins_1 : decode b_M_joins 1 = .ok (.iload_n 1, 1) := by decide +kernel
theorem d_M_joins_2 : decode b_M_joins 2 = .ok (.iconst 1, 1) := by decide +kernel
theorem d_M_joins_3 : decode b_M_joins 3 = .ok (.invokevirtual 177, 3) := by decide +kernel
theorem d_M_joins_6 : decode b_M_joins 6 = .ok (.ifCond .ne 13, 3) := by decide +kernel
theorem d_M_joins_9 : decode b_M_joins 9 = .ok (.aload_n 0, 1) := by decide +kernel
theorem d_M_joins_10 : decode b_M_joins 10 = .ok (.iload_n 1, 1) := by decide +kernel
theorem d_M_joins_11 : decode b_M_joins 11 = .ok (.bipush 7, 2) := by decide +kernel
theorem d_M_joins_13 : decode b_M_joins 13 = .ok (.invokevirtual 177, 3) := by decide +kernel
theorem d_M_joins_16 : decode b_M_joins 16 = .ok (.ifCond .eq 7, 3) := by decide +kernel
theorem d_M_joins_19 : decode b_M_joins 19 = .ok (.iconst 1, 1) := by decide +kernel
theorem d_M_joins_20 : decode b_M_joins 20 = .ok (.goto 4, 3) := by decide +kernel
theorem d_M_joins_23 : decode b_M_joins 23 = .ok (.iconst 0, 1) := by decide +kernel
theorem d_M_joins_24 : decode b_M_joins 24 = .ok (.ireturn, 1) := by decide +kernel
theorem d_M_lacksOne_0 : decode b_M_lacksOne 0 = .ok (.aload_n 0, 1) := by decide +kernel
theorem d_M_lacksOne_1 : decode b_M_lacksOne 1 = .ok (.bipush 7, 2) := by decide +kernel
theorem d_M_lacksOne_3 : decode b_M_lacksOne 3 = .ok (.iload_n 1, 1) := by decide +kernel
theorem d_M_lacksOne_4 : decode b_M_lacksOne 4 = .ok (.invokevirtual 205, 3) := by decide +kernel
theorem d_M_lacksOne_7 : decode b_M_lacksOne 7 = .ok (.iload_n 1, 1) := by decide +kernel
theorem d_M_lacksOne_8 : decode b_M_lacksOne 8 = .ok (.ireturn, 1) := by decide +kernel
theorem d_M_takesSeveral_0 : decode b_M_takesSeveral 0 = .ok (.aload_n 0, 1) := by decide +kernel
theorem d_M_takesSeveral_1 : decode b_M_takesSeveral 1 = .ok (.getfield 186, 3) := by decide +kernel
theorem d_M_takesSeveral_4 : decode b_M_takesSeveral 4 = .ok (.iconst 1, 1) := by decide +kernel
theorem d_M_takesSeveral_5 : decode b_M_takesSeveral 5 = .ok (.isub, 1) := by decide +kernel
theorem d_M_takesSeveral_6 : decode b_M_takesSeveral 6 = .ok (.istore_n 3, 1) := by decide +kernel
theorem d_M_takesSeveral_7 : decode b_M_takesSeveral 7 = .ok (.iload_n 2, 1) := by decide +kernel
theorem d_M_takesSeveral_8 : decode b_M_takesSeveral 8 = .ok (.istore 4, 2) := by decide +kernel
theorem d_M_takesSeveral_10 : decode b_M_takesSeveral 10 = .ok (.aload_n 0, 1) := by decide +kernel
theorem d_M_takesSeveral_11 : decode b_M_takesSeveral 11 = .ok (.iload 4, 2) := by decide +kernel
theorem d_M_takesSeveral_13 : decode b_M_takesSeveral 13 = .ok (.iconst 4, 1) := by decide +kernel
theorem d_M_takesSeveral_14 : decode b_M_takesSeveral 14 = .ok (.invokevirtual 177, 3) := by decide +kernel
theorem d_M_takesSeveral_17 : decode b_M_takesSeveral 17 = .ok (.ifCond .eq 223, 3) := by decide +kernel
theorem d_M_takesSeveral_20 : decode b_M_takesSeveral 20 = .ok (.iconst 0, 1) := by decide +kernel
theorem d_M_takesSeveral_21 : decode b_M_takesSeveral 21 = .ok (.istore 5, 2) := by decide +kernel
theorem d_M_takesSeveral_23 : decode b_M_takesSeveral 23 = .ok (.iload 5, 2) := by decide +kernel
theorem d_M_takesSeveral_25 : decode b_M_takesSeveral 25 = .ok (.aload_n 0, 1) := by decide +kernel
theorem d_M_takesSeveral_26 : decode b_M_takesSeveral 26 = .ok (.getfield 140, 3) := by decide +kernel
theorem d_M_takesSeveral_29 : decode b_M_takesSeveral 29 = .ok (.if_icmp .ge 101, 3) := by decide +kernel
theorem d_M_takesSeveral_32 : decode b_M_takesSeveral 32 = .ok (.aload_n 0, 1) := by decide +kernel
theorem d_M_takesSeveral_33 : decode b_M_takesSeveral 33 = .ok (.iload 5, 2) := by decide +kernel
theorem d_M_takesSeveral_35 : decode b_M_takesSeveral 35 = .ok (.invokevirtual 174, 3) := by decide +kernel
theorem d_M_takesSeveral_38 : decode b_M_takesSeveral 38 = .ok (.ifCond .eq 52, 3) := by decide +kernel
theorem d_M_takesSeveral_41 : decode b_M_takesSeveral 41 = .ok (.aload_n 0, 1) := by decide +kernel
theorem d_M_takesSeveral_42 : decode b_M_takesSeveral 42 = .ok (.iload 5, 2) := by decide +kernel
theorem d_M_takesSeveral_44 : decode b_M_takesSeveral 44 = .ok (.invokevirtual 235, 3) := by decide +kernel
theorem d_M_takesSeveral_47 : decode b_M_takesSeveral 47 = .ok (.ifCond .ne 43, 3) := by decide +kernel
theorem d_M_takesSeveral_50 : decode b_M_takesSeveral 50 = .ok (.iload_n 1, 1) := by decide +kernel
theorem d_M_takesSeveral_51 : decode b_M_takesSeveral 51 = .ok (.bipush 6, 2) := by decide +kernel
theorem d_M_takesSeveral_53 : decode b_M_takesSeveral 53 = .ok (.if_icmp .ne 15, 3) := by decide +kernel
theorem d_M_takesSeveral_56 : decode b_M_takesSeveral 56 = .ok (.aload_n 0, 1) := by decide +kernel
theorem d_M_takesSeveral_57 : decode b_M_takesSeveral 57 = .ok (.iload 5, 2) := by decide +kernel
theorem d_M_takesSeveral_59 : decode b_M_takesSeveral 59 = .ok (.invokevirtual 160, 3) := by decide +kernel
theorem d_M_takesSeveral_62 : decode b_M_takesSeveral 62 = .ok (.ifCond .ne 28, 3) := by decide +kernel
