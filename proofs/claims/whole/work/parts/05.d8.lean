theorem d_M_trace_58 : decode b_M_trace 58 = .ok (.ireturn, 1) := by decide +kernel
theorem d_M_said_0 : decode b_M_said 0 = .ok (.iload_n 1, 1) := by decide +kernel
theorem d_M_said_1 : decode b_M_said 1 = .ok (.ifCond .ne 28, 3) := by decide +kernel
theorem d_M_said_4 : decode b_M_said 4 = .ok (.iload_n 2, 1) := by decide +kernel
theorem d_M_said_5 : decode b_M_said 5 = .ok (.iconst 0, 1) := by decide +kernel
theorem d_M_said_6 : decode b_M_said 6 = .ok (.aload_n 0, 1) := by decide +kernel
theorem d_M_said_7 : decode b_M_said 7 = .ok (.getfield 272, 3) := by decide +kernel
theorem d_M_said_10 : decode b_M_said 10 = .ok (.iconst 1, 1) := by decide +kernel
theorem d_M_said_11 : decode b_M_said 11 = .ok (.isub, 1) := by decide +kernel
theorem d_M_said_12 : decode b_M_said 12 = .ok (.invokestatic 112, 3) := by decide +kernel
theorem d_M_said_15 : decode b_M_said 15 = .ok (.ifCond .eq 12, 3) := by decide +kernel
theorem d_M_said_18 : decode b_M_said 18 = .ok (.aload_n 0, 1) := by decide +kernel
theorem d_M_said_19 : decode b_M_said 19 = .ok (.getfield 84, 3) := by decide +kernel
theorem d_M_said_22 : decode b_M_said 22 = .ok (.iload_n 2, 1) := by decide +kernel
theorem d_M_said_23 : decode b_M_said 23 = .ok (.iaload, 1) := by decide +kernel
theorem d_M_said_24 : decode b_M_said 24 = .ok (.goto 4, 3) := by decide +kernel
theorem d_M_said_27 : decode b_M_said 27 = .ok (.iconst (-1), 1) := by decide +kernel
theorem d_M_said_28 : decode b_M_said 28 = .ok (.ireturn, 1) := by decide +kernel
theorem d_M_said_29 : decode b_M_said 29 = .ok (.iload_n 1, 1) := by decide +kernel
theorem d_M_said_30 : decode b_M_said 30 = .ok (.iconst 1, 1) := by decide +kernel
theorem d_M_said_31 : decode b_M_said 31 = .ok (.if_icmp .ne 26, 3) := by decide +kernel
theorem d_M_said_34 : decode b_M_said 34 = .ok (.iload_n 2, 1) := by decide +kernel
theorem d_M_said_35 : decode b_M_said 35 = .ok (.iconst 0, 1) := by decide +kernel
theorem d_M_said_36 : decode b_M_said 36 = .ok (.aload_n 0, 1) := by decide +kernel
theorem d_M_said_37 : decode b_M_said 37 = .ok (.getfield 157, 3) := by decide +kernel
theorem d_M_said_40 : decode b_M_said 40 = .ok (.iconst 1, 1) := by decide +kernel
theorem d_M_said_41 : decode b_M_said 41 = .ok (.isub, 1) := by decide +kernel
theorem d_M_said_42 : decode b_M_said 42 = .ok (.invokestatic 112, 3) := by decide +kernel
theorem d_M_said_45 : decode b_M_said 45 = .ok (.ifCond .eq 12, 3) := by decide +kernel
theorem d_M_said_48 : decode b_M_said 48 = .ok (.aload_n 0, 1) := by decide +kernel
theorem d_M_said_49 : decode b_M_said 49 = .ok (.getfield 53, 3) := by decide +kernel
theorem d_M_said_52 : decode b_M_said 52 = .ok (.iload_n 2, 1) := by decide +kernel
theorem d_M_said_53 : decode b_M_said 53 = .ok (.iaload, 1) := by decide +kernel
theorem d_M_said_54 : decode b_M_said 54 = .ok (.goto 4, 3) := by decide +kernel
theorem d_M_said_57 : decode b_M_said 57 = .ok (.iconst (-1), 1) := by decide +kernel
theorem d_M_said_58 : decode b_M_said 58 = .ok (.ireturn, 1) := by decide +kernel
theorem d_Row_init_0 : decode b_Row_init 0 = .ok (.aload_n 0, 1) := by decide +kernel
theorem d_Row_init_1 : decode b_Row_init 1 = .ok (.invokespecial 3, 3) := by decide +kernel
theorem d_Row_init_4 : decode b_Row_init 4 = .ok (.aload_n 0, 1) := by decide +kernel
theorem d_Row_init_5 : decode b_Row_init 5 = .ok (.iload_n 1, 1) := by decide +kernel
theorem d_Row_init_6 : decode b_Row_init 6 = .ok (.iconst 0, 1) := by decide +kernel
theorem d_Row_init_7 : decode b_Row_init 7 = .ok (.invokestatic 9, 3) := by decide +kernel
theorem d_Row_init_10 : decode b_Row_init 10 = .ok (.newarray .int, 2) := by decide +kernel
theorem d_Row_init_12 : decode b_Row_init 12 = .ok (.putfield 15, 3) := by decide +kernel
theorem d_Row_init_15 : decode b_Row_init 15 = .ok (.return_, 1) := by decide +kernel
theorem d_Slot_init_0 : decode b_Slot_init 0 = .ok (.aload_n 0, 1) := by decide +kernel
theorem d_Slot_init_1 : decode b_Slot_init 1 = .ok (.invokespecial 3, 3) := by decide +kernel
theorem d_Slot_init_4 : decode b_Slot_init 4 = .ok (.aload_n 0, 1) := by decide +kernel
theorem d_Slot_init_5 : decode b_Slot_init 5 = .ok (.new 9, 3) := by decide +kernel
theorem d_Slot_init_8 : decode b_Slot_init 8 = .ok (.dup, 1) := by decide +kernel
theorem d_Slot_init_9 : decode b_Slot_init 9 = .ok (.bipush 60, 2) := by decide +kernel
theorem d_Slot_init_11 : decode b_Slot_init 11 = .ok (.invokespecial 11, 3) := by decide +kernel
theorem d_Slot_init_14 : decode b_Slot_init 14 = .ok (.putfield 14, 3) := by decide +kernel
theorem d_Slot_init_17 : decode b_Slot_init 17 = .ok (.aload_n 0, 1) := by decide +kernel
theorem d_Slot_init_18 : decode b_Slot_init 18 = .ok (.iconst (-1), 1) := by decide +kernel
theorem d_Slot_init_19 : decode b_Slot_init 19 = .ok (.putfield 20, 3) := by decide +kernel
theorem d_Slot_init_22 : decode b_Slot_init 22 = .ok (.aload_n 0, 1) := by decide +kernel
theorem d_Slot_init_23 : decode b_Slot_init 23 = .ok (.iconst (-1), 1) := by decide +kernel
theorem d_Slot_init_24 : decode b_Slot_init 24 = .ok (.putfield 24, 3) := by decide +kernel
theorem d_Slot_init_27 : decode b_Slot_init 27 = .ok (.return_, 1) := by decide +kernel
theorem d_Phrase_init_0 : decode b_Phrase_init 0 = .ok (.aload_n 0, 1) := by decide +kernel
theorem d_Phrase_init_1 : decode b_Phrase_init 1 = .ok (.invokespecial 1, 3) := by decide +kernel
theorem d_Phrase_init_4 : decode b_Phrase_init 4 = .ok (.aload_n 0, 1) := by decide +kernel
theorem d_Phrase_init_5 : decode b_Phrase_init 5 = .ok (.aload_n 1, 1) := by decide +kernel
theorem d_Phrase_init_6 : decode b_Phrase_init 6 = .ok (.putfield 7, 3) := by decide +kernel
theorem d_Phrase_init_9 : decode b_Phrase_init 9 = .ok (.return_, 1) := by decide +kernel
theorem d_Things_init_0 : decode b_Things_init 0 = .ok (.aload_n 0, 1) := by decide +kernel
theorem d_Things_init_1 : decode b_Things_init 1 = .ok (.invokespecial 3, 3) := by decide +kernel
theorem d_Things_init_4 : decode b_Things_init 4 = .ok (.aload_n 0, 1) := by decide +kernel
theorem d_Things_init_5 : decode b_Things_init 5 = .ok (.bipush 40, 2) := by decide +kernel
theorem d_Things_init_7 : decode b_Things_init 7 = .ok (.newarray .int, 2) := by decide +kernel
theorem d_Things_init_9 : decode b_Things_init 9 = .ok (.putfield 9, 3) := by decide +kernel
theorem d_Things_init_12 : decode b_Things_init 12 = .ok (.aload_n 0, 1) := by decide +kernel
theorem d_Things_init_13 : decode b_Things_init 13 = .ok (.bipush 40, 2) := by decide +kernel
theorem d_Things_init_15 : decode b_Things_init 15 = .ok (.newarray .int, 2) := by decide +kernel
theorem d_Things_init_17 : decode b_Things_init 17 = .ok (.putfield 15, 3) := by decide +kernel
theorem d_Things_init_20 : decode b_Things_init 20 = .ok (.aload_n 0, 1) := by decide +kernel
theorem d_Things_init_21 : decode b_Things_init 21 = .ok (.sipush 160, 3) := by decide +kernel
theorem d_Things_init_24 : decode b_Things_init 24 = .ok (.newarray .int, 2) := by decide +kernel
theorem d_Things_init_26 : decode b_Things_init 26 = .ok (.putfield 18, 3) := by decide +kernel
theorem d_Things_init_29 : decode b_Things_init 29 = .ok (.return_, 1) := by decide +kernel
theorem d_Verbs_init_0 : decode b_Verbs_init 0 = .ok (.aload_n 0, 1) := by decide +kernel
theorem d_Verbs_init_1 : decode b_Verbs_init 1 = .ok (.invokespecial 3, 3) := by decide +kernel
theorem d_Verbs_init_4 : decode b_Verbs_init 4 = .ok (.aload_n 0, 1) := by decide +kernel
theorem d_Verbs_init_5 : decode b_Verbs_init 5 = .ok (.new 9, 3) := by decide +kernel
theorem d_Verbs_init_8 : decode b_Verbs_init 8 = .ok (.dup, 1) := by decide +kernel
theorem d_Verbs_init_9 : decode b_Verbs_init 9 = .ok (.bipush 60, 2) := by decide +kernel
theorem d_Verbs_init_11 : decode b_Verbs_init 11 = .ok (.invokespecial 11, 3) := by decide +kernel
theorem d_Verbs_init_14 : decode b_Verbs_init 14 = .ok (.putfield 14, 3) := by decide +kernel
theorem d_Verbs_init_17 : decode b_Verbs_init 17 = .ok (.aload_n 0, 1) := by decide +kernel
theorem d_Verbs_init_18 : decode b_Verbs_init 18 = .ok (.new 9, 3) := by decide +kernel
theorem d_Verbs_init_21 : decode b_Verbs_init 21 = .ok (.dup, 1) := by decide +kernel
theorem d_Verbs_init_22 : decode b_Verbs_init 22 = .ok (.bipush 60, 2) := by decide +kernel
theorem d_Verbs_init_24 : decode b_Verbs_init 24 = .ok (.invokespecial 11, 3) := by decide +kernel
theorem d_Verbs_init_27 : decode b_Verbs_init 27 = .ok (.putfield 20, 3) := by decide +kernel
theorem d_Verbs_init_30 : decode b_Verbs_init 30 = .ok (.return_, 1) := by decide +kernel
theorem d_Lines_init_0 : decode b_Lines_init 0 = .ok (.aload_n 0, 1) := by decide +kernel
theorem d_Lines_init_1 : decode b_Lines_init 1 = .ok (.invokespecial 3, 3) := by decide +kernel
theorem d_Lines_init_4 : decode b_Lines_init 4 = .ok (.aload_n 0, 1) := by decide +kernel
theorem d_Lines_init_5 : decode b_Lines_init 5 = .ok (.bipush 60, 2) := by decide +kernel
theorem d_Lines_init_7 : decode b_Lines_init 7 = .ok (.newarray .int, 2) := by decide +kernel
theorem d_Lines_init_9 : decode b_Lines_init 9 = .ok (.putfield 9, 3) := by decide +kernel
theorem d_Lines_init_12 : decode b_Lines_init 12 = .ok (.aload_n 0, 1) := by decide +kernel
theorem d_Lines_init_13 : decode b_Lines_init 13 = .ok (.bipush 60, 2) := by decide +kernel
theorem d_Lines_init_15 : decode b_Lines_init 15 = .ok (.newarray .int, 2) := by decide +kernel
theorem d_Lines_init_17 : decode b_Lines_init 17 = .ok (.putfield 15, 3) := by decide +kernel
theorem d_Lines_init_20 : decode b_Lines_init 20 = .ok (.aload_n 0, 1) := by decide +kernel
theorem d_Lines_init_21 : decode b_Lines_init 21 = .ok (.bipush 60, 2) := by decide +kernel
theorem d_Lines_init_23 : decode b_Lines_init 23 = .ok (.newarray .boolean, 2) := by decide +kernel
theorem d_Lines_init_25 : decode b_Lines_init 25 = .ok (.putfield 18, 3) := by decide +kernel
theorem d_Lines_init_28 : decode b_Lines_init 28 = .ok (.aload_n 0, 1) := by decide +kernel
theorem d_Lines_init_29 : decode b_Lines_init 29 = .ok (.bipush 60, 2) := by decide +kernel
theorem d_Lines_init_31 : decode b_Lines_init 31 = .ok (.newarray .int, 2) := by decide +kernel
theorem d_Lines_init_33 : decode b_Lines_init 33 = .ok (.putfield 22, 3) := by decide +kernel
theorem d_Lines_init_36 : decode b_Lines_init 36 = .ok (.aload_n 0, 1) := by decide +kernel
theorem d_Lines_init_37 : decode b_Lines_init 37 = .ok (.sipush 480, 3) := by decide +kernel
theorem d_Lines_init_40 : decode b_Lines_init 40 = .ok (.newarray .int, 2) := by decide +kernel
theorem d_Lines_init_42 : decode b_Lines_init 42 = .ok (.putfield 25, 3) := by decide +kernel
theorem d_Lines_init_45 : decode b_Lines_init 45 = .ok (.aload_n 0, 1) := by decide +kernel
theorem d_Lines_init_46 : decode b_Lines_init 46 = .ok (.sipush 480, 3) := by decide +kernel
theorem d_Lines_init_49 : decode b_Lines_init 49 = .ok (.newarray .int, 2) := by decide +kernel
theorem d_Lines_init_51 : decode b_Lines_init 51 = .ok (.putfield 28, 3) := by decide +kernel
theorem d_Lines_init_54 : decode b_Lines_init 54 = .ok (.return_, 1) := by decide +kernel
theorem d_Values_init_0 : decode b_Values_init 0 = .ok (.aload_n 0, 1) := by decide +kernel
theorem d_Values_init_1 : decode b_Values_init 1 = .ok (.invokespecial 3, 3) := by decide +kernel
theorem d_Values_init_4 : decode b_Values_init 4 = .ok (.aload_n 0, 1) := by decide +kernel
theorem d_Values_init_5 : decode b_Values_init 5 = .ok (.new 9, 3) := by decide +kernel
theorem d_Values_init_8 : decode b_Values_init 8 = .ok (.dup, 1) := by decide +kernel
theorem d_Values_init_9 : decode b_Values_init 9 = .ok (.bipush 40, 2) := by decide +kernel
theorem d_Values_init_11 : decode b_Values_init 11 = .ok (.invokespecial 11, 3) := by decide +kernel
theorem d_Values_init_14 : decode b_Values_init 14 = .ok (.putfield 14, 3) := by decide +kernel
theorem d_Values_init_17 : decode b_Values_init 17 = .ok (.aload_n 0, 1) := by decide +kernel
theorem d_Values_init_18 : decode b_Values_init 18 = .ok (.new 9, 3) := by decide +kernel
theorem d_Values_init_21 : decode b_Values_init 21 = .ok (.dup, 1) := by decide +kernel
theorem d_Values_init_22 : decode b_Values_init 22 = .ok (.bipush 40, 2) := by decide +kernel
theorem d_Values_init_24 : decode b_Values_init 24 = .ok (.invokespecial 11, 3) := by decide +kernel
theorem d_Values_init_27 : decode b_Values_init 27 = .ok (.putfield 20, 3) := by decide +kernel
theorem d_Values_init_30 : decode b_Values_init 30 = .ok (.aload_n 0, 1) := by decide +kernel
theorem d_Values_init_31 : decode b_Values_init 31 = .ok (.new 9, 3) := by decide +kernel
theorem d_Values_init_34 : decode b_Values_init 34 = .ok (.dup, 1) := by decide +kernel
theorem d_Values_init_35 : decode b_Values_init 35 = .ok (.bipush 40, 2) := by decide +kernel
theorem d_Values_init_37 : decode b_Values_init 37 = .ok (.invokespecial 11, 3) := by decide +kernel
theorem d_Values_init_40 : decode b_Values_init 40 = .ok (.putfield 23, 3) := by decide +kernel
theorem d_Values_init_43 : decode b_Values_init 43 = .ok (.return_, 1) := by decide +kernel
theorem d_Trial_init_0 : decode b_Trial_init 0 = .ok (.aload_n 0, 1) := by decide +kernel
theorem d_Trial_init_1 : decode b_Trial_init 1 = .ok (.invokespecial 3, 3) := by decide +kernel
theorem d_Trial_init_4 : decode b_Trial_init 4 = .ok (.aload_n 0, 1) := by decide +kernel
theorem d_Trial_init_5 : decode b_Trial_init 5 = .ok (.new 9, 3) := by decide +kernel
theorem d_Trial_init_8 : decode b_Trial_init 8 = .ok (.dup, 1) := by decide +kernel
theorem d_Trial_init_9 : decode b_Trial_init 9 = .ok (.invokespecial 11, 3) := by decide +kernel
theorem d_Trial_init_12 : decode b_Trial_init 12 = .ok (.putfield 12, 3) := by decide +kernel
theorem d_Trial_init_15 : decode b_Trial_init 15 = .ok (.aload_n 0, 1) := by decide +kernel
theorem d_Trial_init_16 : decode b_Trial_init 16 = .ok (.new 9, 3) := by decide +kernel
theorem d_Trial_init_19 : decode b_Trial_init 19 = .ok (.dup, 1) := by decide +kernel
theorem d_Trial_init_20 : decode b_Trial_init 20 = .ok (.invokespecial 11, 3) := by decide +kernel
theorem d_Trial_init_23 : decode b_Trial_init 23 = .ok (.putfield 18, 3) := by decide +kernel
theorem d_Trial_init_26 : decode b_Trial_init 26 = .ok (.aload_n 0, 1) := by decide +kernel
theorem d_Trial_init_27 : decode b_Trial_init 27 = .ok (.new 21, 3) := by decide +kernel
theorem d_Trial_init_30 : decode b_Trial_init 30 = .ok (.dup, 1) := by decide +kernel
theorem d_Trial_init_31 : decode b_Trial_init 31 = .ok (.bipush 8, 2) := by decide +kernel
theorem d_Trial_init_33 : decode b_Trial_init 33 = .ok (.invokespecial 23, 3) := by decide +kernel
theorem d_Trial_init_36 : decode b_Trial_init 36 = .ok (.putfield 26, 3) := by decide +kernel
theorem d_Trial_init_39 : decode b_Trial_init 39 = .ok (.aload_n 0, 1) := by decide +kernel
theorem d_Trial_init_40 : decode b_Trial_init 40 = .ok (.new 21, 3) := by decide +kernel
theorem d_Trial_init_43 : decode b_Trial_init 43 = .ok (.dup, 1) := by decide +kernel
theorem d_Trial_init_44 : decode b_Trial_init 44 = .ok (.bipush 40, 2) := by decide +kernel
theorem d_Trial_init_46 : decode b_Trial_init 46 = .ok (.invokespecial 23, 3) := by decide +kernel
theorem d_Trial_init_49 : decode b_Trial_init 49 = .ok (.putfield 30, 3) := by decide +kernel
theorem d_Trial_init_52 : decode b_Trial_init 52 = .ok (.aload_n 0, 1) := by decide +kernel
theorem d_Trial_init_53 : decode b_Trial_init 53 = .ok (.iconst (-1), 1) := by decide +kernel
theorem d_Trial_init_54 : decode b_Trial_init 54 = .ok (.putfield 33, 3) := by decide +kernel
theorem d_Trial_init_57 : decode b_Trial_init 57 = .ok (.aload_n 0, 1) := by decide +kernel
theorem d_Trial_init_58 : decode b_Trial_init 58 = .ok (.iconst (-1), 1) := by decide +kernel
theorem d_Trial_init_59 : decode b_Trial_init 59 = .ok (.putfield 37, 3) := by decide +kernel
theorem d_Trial_init_62 : decode b_Trial_init 62 = .ok (.aload_n 0, 1) := by decide +kernel
theorem d_Trial_init_63 : decode b_Trial_init 63 = .ok (.aload_n 1, 1) := by decide +kernel
theorem d_Trial_init_64 : decode b_Trial_init 64 = .ok (.putfield 40, 3) := by decide +kernel
theorem d_Trial_init_67 : decode b_Trial_init 67 = .ok (.aload_n 0, 1) := by decide +kernel
theorem d_Trial_init_68 : decode b_Trial_init 68 = .ok (.aload_n 2, 1) := by decide +kernel
theorem d_Trial_init_69 : decode b_Trial_init 69 = .ok (.putfield 44, 3) := by decide +kernel
theorem d_Trial_init_72 : decode b_Trial_init 72 = .ok (.aload_n 0, 1) := by decide +kernel
theorem d_Trial_init_73 : decode b_Trial_init 73 = .ok (.aload_n 3, 1) := by decide +kernel
theorem d_Trial_init_74 : decode b_Trial_init 74 = .ok (.putfield 48, 3) := by decide +kernel
theorem d_Trial_init_77 : decode b_Trial_init 77 = .ok (.aload_n 0, 1) := by decide +kernel
theorem d_Trial_init_78 : decode b_Trial_init 78 = .ok (.aload 4, 2) := by decide +kernel
theorem d_Trial_init_80 : decode b_Trial_init 80 = .ok (.putfield 52, 3) := by decide +kernel
theorem d_Trial_init_83 : decode b_Trial_init 83 = .ok (.aload_n 0, 1) := by decide +kernel
theorem d_Trial_init_84 : decode b_Trial_init 84 = .ok (.new 55, 3) := by decide +kernel
theorem d_Trial_init_87 : decode b_Trial_init 87 = .ok (.dup, 1) := by decide +kernel
theorem d_Trial_init_88 : decode b_Trial_init 88 = .ok (.aload_n 1, 1) := by decide +kernel
theorem d_Trial_init_89 : decode b_Trial_init 89 = .ok (.invokespecial 57, 3) := by decide +kernel
theorem d_Trial_init_92 : decode b_Trial_init 92 = .ok (.putfield 60, 3) := by decide +kernel
theorem d_Trial_init_95 : decode b_Trial_init 95 = .ok (.return_, 1) := by decide +kernel
theorem d_Report_init_0 : decode b_Report_init 0 = .ok (.aload_n 0, 1) := by decide +kernel
theorem d_Report_init_1 : decode b_Report_init 1 = .ok (.invokespecial 3, 3) := by decide +kernel
theorem d_Report_init_4 : decode b_Report_init 4 = .ok (.aload_n 0, 1) := by decide +kernel
theorem d_Report_init_5 : decode b_Report_init 5 = .ok (.new 9, 3) := by decide +kernel
theorem d_Report_init_8 : decode b_Report_init 8 = .ok (.dup, 1) := by decide +kernel
theorem d_Report_init_9 : decode b_Report_init 9 = .ok (.bipush 60, 2) := by decide +kernel
theorem d_Report_init_11 : decode b_Report_init 11 = .ok (.invokespecial 11, 3) := by decide +kernel
theorem d_Report_init_14 : decode b_Report_init 14 = .ok (.putfield 14, 3) := by decide +kernel
theorem d_Report_init_17 : decode b_Report_init 17 = .ok (.aload_n 0, 1) := by decide +kernel
theorem d_Report_init_18 : decode b_Report_init 18 = .ok (.new 9, 3) := by decide +kernel
theorem d_Report_init_21 : decode b_Report_init 21 = .ok (.dup, 1) := by decide +kernel
theorem d_Report_init_22 : decode b_Report_init 22 = .ok (.bipush 60, 2) := by decide +kernel
theorem d_Report_init_24 : decode b_Report_init 24 = .ok (.invokespecial 11, 3) := by decide +kernel
theorem d_Report_init_27 : decode b_Report_init 27 = .ok (.putfield 20, 3) := by decide +kernel
theorem d_Report_init_30 : decode b_Report_init 30 = .ok (.aload_n 0, 1) := by decide +kernel
theorem d_Report_init_31 : decode b_Report_init 31 = .ok (.new 9, 3) := by decide +kernel
theorem d_Report_init_34 : decode b_Report_init 34 = .ok (.dup, 1) := by decide +kernel
theorem d_Report_init_35 : decode b_Report_init 35 = .ok (.bipush 60, 2) := by decide +kernel
theorem d_Report_init_37 : decode b_Report_init 37 = .ok (.invokespecial 11, 3) := by decide +kernel
theorem d_Report_init_40 : decode b_Report_init 40 = .ok (.putfield 23, 3) := by decide +kernel
theorem d_Report_init_43 : decode b_Report_init 43 = .ok (.aload_n 0, 1) := by decide +kernel
theorem d_Report_init_44 : decode b_Report_init 44 = .ok (.new 9, 3) := by decide +kernel
theorem d_Report_init_47 : decode b_Report_init 47 = .ok (.dup, 1) := by decide +kernel
theorem d_Report_init_48 : decode b_Report_init 48 = .ok (.bipush 40, 2) := by decide +kernel
theorem d_Report_init_50 : decode b_Report_init 50 = .ok (.invokespecial 11, 3) := by decide +kernel
theorem d_Report_init_53 : decode b_Report_init 53 = .ok (.putfield 26, 3) := by decide +kernel
theorem d_Report_init_56 : decode b_Report_init 56 = .ok (.aload_n 0, 1) := by decide +kernel
theorem d_Report_init_57 : decode b_Report_init 57 = .ok (.iconst (-1), 1) := by decide +kernel
theorem d_Report_init_58 : decode b_Report_init 58 = .ok (.putfield 29, 3) := by decide +kernel
theorem d_Report_init_61 : decode b_Report_init 61 = .ok (.aload_n 0, 1) := by decide +kernel
theorem d_Report_init_62 : decode b_Report_init 62 = .ok (.iconst (-1), 1) := by decide +kernel
theorem d_Report_init_63 : decode b_Report_init 63 = .ok (.putfield 33, 3) := by decide +kernel
theorem d_Report_init_66 : decode b_Report_init 66 = .ok (.aload_n 0, 1) := by decide +kernel
theorem d_Report_init_67 : decode b_Report_init 67 = .ok (.iconst (-1), 1) := by decide +kernel
theorem d_Report_init_68 : decode b_Report_init 68 = .ok (.putfield 36, 3) := by decide +kernel
theorem d_Report_init_71 : decode b_Report_init 71 = .ok (.return_, 1) := by decide +kernel
theorem d_G_init_0 : decode b_G_init 0 = .ok (.aload_n 0, 1) := by decide +kernel
theorem d_G_init_1 : decode b_G_init 1 = .ok (.invokespecial 1, 3) := by decide +kernel
theorem d_G_init_4 : decode b_G_init 4 = .ok (.aload_n 0, 1) := by decide +kernel
theorem d_G_init_5 : decode b_G_init 5 = .ok (.new 7, 3) := by decide +kernel
theorem d_G_init_8 : decode b_G_init 8 = .ok (.dup, 1) := by decide +kernel
theorem d_G_init_9 : decode b_G_init 9 = .ok (.invokespecial 9, 3) := by decide +kernel
theorem d_G_init_12 : decode b_G_init 12 = .ok (.putfield 10, 3) := by decide +kernel
theorem d_G_init_15 : decode b_G_init 15 = .ok (.aload_n 0, 1) := by decide +kernel
theorem d_G_init_16 : decode b_G_init 16 = .ok (.new 16, 3) := by decide +kernel
theorem d_G_init_19 : decode b_G_init 19 = .ok (.dup, 1) := by decide +kernel
theorem d_G_init_20 : decode b_G_init 20 = .ok (.invokespecial 18, 3) := by decide +kernel
theorem d_G_init_23 : decode b_G_init 23 = .ok (.putfield 19, 3) := by decide +kernel
theorem d_G_init_26 : decode b_G_init 26 = .ok (.aload_n 0, 1) := by decide +kernel
theorem d_G_init_27 : decode b_G_init 27 = .ok (.new 23, 3) := by decide +kernel
theorem d_G_init_30 : decode b_G_init 30 = .ok (.dup, 1) := by decide +kernel
theorem d_G_init_31 : decode b_G_init 31 = .ok (.invokespecial 25, 3) := by decide +kernel
theorem d_G_init_34 : decode b_G_init 34 = .ok (.putfield 26, 3) := by decide +kernel
theorem d_G_init_37 : decode b_G_init 37 = .ok (.aload_n 0, 1) := by decide +kernel
theorem d_G_init_38 : decode b_G_init 38 = .ok (.new 30, 3) := by decide +kernel
theorem d_G_init_41 : decode b_G_init 41 = .ok (.dup, 1) := by decide +kernel
theorem d_G_init_42 : decode b_G_init 42 = .ok (.invokespecial 32, 3) := by decide +kernel
theorem d_G_init_45 : decode b_G_init 45 = .ok (.putfield 33, 3) := by decide +kernel
theorem d_G_init_48 : decode b_G_init 48 = .ok (.aload_n 0, 1) := by decide +kernel
theorem d_G_init_49 : decode b_G_init 49 = .ok (.new 37, 3) := by decide +kernel
theorem d_G_init_52 : decode b_G_init 52 = .ok (.dup, 1) := by decide +kernel
theorem d_G_init_53 : decode b_G_init 53 = .ok (.bipush 60, 2) := by decide +kernel
theorem d_G_init_55 : decode b_G_init 55 = .ok (.invokespecial 39, 3) := by decide +kernel
theorem d_G_init_58 : decode b_G_init 58 = .ok (.putfield 42, 3) := by decide +kernel
theorem d_G_init_61 : decode b_G_init 61 = .ok (.aload_n 0, 1) := by decide +kernel
theorem d_G_init_62 : decode b_G_init 62 = .ok (.new 37, 3) := by decide +kernel
theorem d_G_init_65 : decode b_G_init 65 = .ok (.dup, 1) := by decide +kernel
theorem d_G_init_66 : decode b_G_init 66 = .ok (.bipush 60, 2) := by decide +kernel
theorem d_G_init_68 : decode b_G_init 68 = .ok (.invokespecial 39, 3) := by decide +kernel
theorem d_G_init_71 : decode b_G_init 71 = .ok (.putfield 46, 3) := by decide +kernel
theorem d_G_init_74 : decode b_G_init 74 = .ok (.aload_n 0, 1) := by decide +kernel
theorem d_G_init_75 : decode b_G_init 75 = .ok (.new 37, 3) := by decide +kernel
theorem d_G_init_78 : decode b_G_init 78 = .ok (.dup, 1) := by decide +kernel
theorem d_G_init_79 : decode b_G_init 79 = .ok (.bipush 60, 2) := by decide +kernel
theorem d_G_init_81 : decode b_G_init 81 = .ok (.invokespecial 39, 3) := by decide +kernel
theorem d_G_init_84 : decode b_G_init 84 = .ok (.putfield 49, 3) := by decide +kernel
theorem d_G_init_87 : decode b_G_init 87 = .ok (.aload_n 0, 1) := by decide +kernel
theorem d_G_init_88 : decode b_G_init 88 = .ok (.new 37, 3) := by decide +kernel
theorem d_G_init_91 : decode b_G_init 91 = .ok (.dup, 1) := by decide +kernel
theorem d_G_init_92 : decode b_G_init 92 = .ok (.bipush 60, 2) := by decide +kernel
theorem d_G_init_94 : decode b_G_init 94 = .ok (.invokespecial 39, 3) := by decide +kernel
theorem d_G_init_97 : decode b_G_init 97 = .ok (.putfield 52, 3) := by decide +kernel
theorem d_G_init_100 : decode b_G_init 100 = .ok (.aload_n 0, 1) := by decide +kernel
theorem d_G_init_101 : decode b_G_init 101 = .ok (.new 55, 3) := by decide +kernel
theorem d_G_init_104 : decode b_G_init 104 = .ok (.dup, 1) := by decide +kernel
theorem d_G_init_105 : decode b_G_init 105 = .ok (.aload_n 0, 1) := by decide +kernel
theorem d_G_init_106 : decode b_G_init 106 = .ok (.getfield 10, 3) := by decide +kernel
theorem d_G_init_109 : decode b_G_init 109 = .ok (.invokespecial 57, 3) := by decide +kernel
theorem d_G_init_112 : decode b_G_init 112 = .ok (.putfield 60, 3) := by decide +kernel
theorem d_G_init_115 : decode b_G_init 115 = .ok (.aload_n 0, 1) := by decide +kernel
theorem d_G_init_116 : decode b_G_init 116 = .ok (.new 64, 3) := by decide +kernel
theorem d_G_init_119 : decode b_G_init 119 = .ok (.dup, 1) := by decide +kernel
theorem d_G_init_120 : decode b_G_init 120 = .ok (.aload_n 0, 1) := by decide +kernel
theorem d_G_init_121 : decode b_G_init 121 = .ok (.getfield 10, 3) := by decide +kernel
theorem d_G_init_124 : decode b_G_init 124 = .ok (.aload_n 0, 1) := by decide +kernel
theorem d_G_init_125 : decode b_G_init 125 = .ok (.getfield 26, 3) := by decide +kernel
theorem d_G_init_128 : decode b_G_init 128 = .ok (.aload_n 0, 1) := by decide +kernel
theorem d_G_init_129 : decode b_G_init 129 = .ok (.getfield 33, 3) := by decide +kernel
theorem d_G_init_132 : decode b_G_init 132 = .ok (.aload_n 0, 1) := by decide +kernel
theorem d_G_init_133 : decode b_G_init 133 = .ok (.getfield 46, 3) := by decide +kernel
theorem d_G_init_136 : decode b_G_init 136 = .ok (.invokespecial 66, 3) := by decide +kernel
theorem d_G_init_139 : decode b_G_init 139 = .ok (.putfield 69, 3) := by decide +kernel
theorem d_G_init_142 : decode b_G_init 142 = .ok (.aload_n 0, 1) := by decide +kernel
theorem d_G_init_143 : decode b_G_init 143 = .ok (.new 73, 3) := by decide +kernel
theorem d_G_init_146 : decode b_G_init 146 = .ok (.dup, 1) := by decide +kernel
theorem d_G_init_147 : decode b_G_init 147 = .ok (.invokespecial 75, 3) := by decide +kernel
theorem d_G_init_150 : decode b_G_init 150 = .ok (.putfield 76, 3) := by decide +kernel
theorem d_G_init_153 : decode b_G_init 153 = .ok (.aload_n 0, 1) := by decide +kernel
theorem d_G_init_154 : decode b_G_init 154 = .ok (.iconst (-1), 1) := by decide +kernel
theorem d_G_init_155 : decode b_G_init 155 = .ok (.putfield 80, 3) := by decide +kernel
theorem d_G_init_158 : decode b_G_init 158 = .ok (.aload_n 0, 1) := by decide +kernel
theorem d_G_init_159 : decode b_G_init 159 = .ok (.iconst (-1), 1) := by decide +kernel
theorem d_G_init_160 : decode b_G_init 160 = .ok (.putfield 84, 3) := by decide +kernel
theorem d_G_init_163 : decode b_G_init 163 = .ok (.return_, 1) := by decide +kernel
theorem d_M_init_0 : decode b_M_init 0 = .ok (.aload_n 0, 1) := by decide +kernel
theorem d_M_init_1 : decode b_M_init 1 = .ok (.invokespecial 1, 3) := by decide +kernel
theorem d_M_init_4 : decode b_M_init 4 = .ok (.aload_n 0, 1) := by decide +kernel
theorem d_M_init_5 : decode b_M_init 5 = .ok (.bipush 60, 2) := by decide +kernel
theorem d_M_init_7 : decode b_M_init 7 = .ok (.newarray .int, 2) := by decide +kernel
theorem d_M_init_9 : decode b_M_init 9 = .ok (.putfield 7, 3) := by decide +kernel
theorem d_M_init_12 : decode b_M_init 12 = .ok (.aload_n 0, 1) := by decide +kernel
theorem d_M_init_13 : decode b_M_init 13 = .ok (.bipush 60, 2) := by decide +kernel
theorem d_M_init_15 : decode b_M_init 15 = .ok (.newarray .int, 2) := by decide +kernel
theorem d_M_init_17 : decode b_M_init 17 = .ok (.putfield 13, 3) := by decide +kernel
theorem d_M_init_20 : decode b_M_init 20 = .ok (.aload_n 0, 1) := by decide +kernel
theorem d_M_init_21 : decode b_M_init 21 = .ok (.bipush 60, 2) := by decide +kernel
theorem d_M_init_23 : decode b_M_init 23 = .ok (.newarray .int, 2) := by decide +kernel
theorem d_M_init_25 : decode b_M_init 25 = .ok (.putfield 16, 3) := by decide +kernel
theorem d_M_init_28 : decode b_M_init 28 = .ok (.aload_n 0, 1) := by decide +kernel
theorem d_M_init_29 : decode b_M_init 29 = .ok (.bipush 60, 2) := by decide +kernel
theorem d_M_init_31 : decode b_M_init 31 = .ok (.newarray .int, 2) := by decide +kernel
theorem d_M_init_33 : decode b_M_init 33 = .ok (.putfield 19, 3) := by decide +kernel
theorem d_M_init_36 : decode b_M_init 36 = .ok (.aload_n 0, 1) := by decide +kernel
theorem d_M_init_37 : decode b_M_init 37 = .ok (.bipush 60, 2) := by decide +kernel
theorem d_M_init_39 : decode b_M_init 39 = .ok (.newarray .boolean, 2) := by decide +kernel
theorem d_M_init_41 : decode b_M_init 41 = .ok (.putfield 22, 3) := by decide +kernel
theorem d_M_init_44 : decode b_M_init 44 = .ok (.aload_n 0, 1) := by decide +kernel
theorem d_M_init_45 : decode b_M_init 45 = .ok (.bipush 60, 2) := by decide +kernel
theorem d_M_init_47 : decode b_M_init 47 = .ok (.newarray .int, 2) := by decide +kernel
theorem d_M_init_49 : decode b_M_init 49 = .ok (.putfield 26, 3) := by decide +kernel
theorem d_M_init_52 : decode b_M_init 52 = .ok (.aload_n 0, 1) := by decide +kernel
theorem d_M_init_53 : decode b_M_init 53 = .ok (.sipush 480, 3) := by decide +kernel
theorem d_M_init_56 : decode b_M_init 56 = .ok (.newarray .int, 2) := by decide +kernel
theorem d_M_init_58 : decode b_M_init 58 = .ok (.putfield 29, 3) := by decide +kernel
theorem d_M_init_61 : decode b_M_init 61 = .ok (.aload_n 0, 1) := by decide +kernel
theorem d_M_init_62 : decode b_M_init 62 = .ok (.sipush 480, 3) := by decide +kernel
theorem d_M_init_65 : decode b_M_init 65 = .ok (.newarray .int, 2) := by decide +kernel
theorem d_M_init_67 : decode b_M_init 67 = .ok (.putfield 32, 3) := by decide +kernel
theorem d_M_init_70 : decode b_M_init 70 = .ok (.aload_n 0, 1) := by decide +kernel
theorem d_M_init_71 : decode b_M_init 71 = .ok (.bipush 40, 2) := by decide +kernel
theorem d_M_init_73 : decode b_M_init 73 = .ok (.newarray .int, 2) := by decide +kernel
theorem d_M_init_75 : decode b_M_init 75 = .ok (.putfield 35, 3) := by decide +kernel
theorem d_M_init_78 : decode b_M_init 78 = .ok (.aload_n 0, 1) := by decide +kernel
theorem d_M_init_79 : decode b_M_init 79 = .ok (.bipush 40, 2) := by decide +kernel
theorem d_M_init_81 : decode b_M_init 81 = .ok (.newarray .int, 2) := by decide +kernel
theorem d_M_init_83 : decode b_M_init 83 = .ok (.putfield 38, 3) := by decide +kernel
theorem d_M_init_86 : decode b_M_init 86 = .ok (.aload_n 0, 1) := by decide +kernel
theorem d_M_init_87 : decode b_M_init 87 = .ok (.sipush 160, 3) := by decide +kernel
theorem d_M_init_90 : decode b_M_init 90 = .ok (.newarray .int, 2) := by decide +kernel
theorem d_M_init_92 : decode b_M_init 92 = .ok (.putfield 41, 3) := by decide +kernel
theorem d_M_init_95 : decode b_M_init 95 = .ok (.aload_n 0, 1) := by decide +kernel
theorem d_M_init_96 : decode b_M_init 96 = .ok (.bipush 40, 2) := by decide +kernel
theorem d_M_init_98 : decode b_M_init 98 = .ok (.newarray .int, 2) := by decide +kernel
theorem d_M_init_100 : decode b_M_init 100 = .ok (.putfield 44, 3) := by decide +kernel
theorem d_M_init_103 : decode b_M_init 103 = .ok (.aload_n 0, 1) := by decide +kernel
theorem d_M_init_104 : decode b_M_init 104 = .ok (.bipush 40, 2) := by decide +kernel
theorem d_M_init_106 : decode b_M_init 106 = .ok (.newarray .int, 2) := by decide +kernel
theorem d_M_init_108 : decode b_M_init 108 = .ok (.putfield 47, 3) := by decide +kernel
theorem d_M_init_111 : decode b_M_init 111 = .ok (.aload_n 0, 1) := by decide +kernel
theorem d_M_init_112 : decode b_M_init 112 = .ok (.bipush 40, 2) := by decide +kernel
theorem d_M_init_114 : decode b_M_init 114 = .ok (.newarray .int, 2) := by decide +kernel
theorem d_M_init_116 : decode b_M_init 116 = .ok (.putfield 50, 3) := by decide +kernel
theorem d_M_init_119 : decode b_M_init 119 = .ok (.aload_n 0, 1) := by decide +kernel
theorem d_M_init_120 : decode b_M_init 120 = .ok (.bipush 60, 2) := by decide +kernel
theorem d_M_init_122 : decode b_M_init 122 = .ok (.newarray .int, 2) := by decide +kernel
theorem d_M_init_124 : decode b_M_init 124 = .ok (.putfield 53, 3) := by decide +kernel
theorem d_M_init_127 : decode b_M_init 127 = .ok (.aload_n 0, 1) := by decide +kernel
theorem d_M_init_128 : decode b_M_init 128 = .ok (.bipush 60, 2) := by decide +kernel
theorem d_M_init_130 : decode b_M_init 130 = .ok (.newarray .int, 2) := by decide +kernel
theorem d_M_init_132 : decode b_M_init 132 = .ok (.putfield 56, 3) := by decide +kernel
theorem d_M_init_135 : decode b_M_init 135 = .ok (.aload_n 0, 1) := by decide +kernel
theorem d_M_init_136 : decode b_M_init 136 = .ok (.bipush 8, 2) := by decide +kernel
theorem d_M_init_138 : decode b_M_init 138 = .ok (.newarray .int, 2) := by decide +kernel
theorem d_M_init_140 : decode b_M_init 140 = .ok (.putfield 59, 3) := by decide +kernel
theorem d_M_init_143 : decode b_M_init 143 = .ok (.aload_n 0, 1) := by decide +kernel
theorem d_M_init_144 : decode b_M_init 144 = .ok (.bipush 8, 2) := by decide +kernel
theorem d_M_init_146 : decode b_M_init 146 = .ok (.newarray .int, 2) := by decide +kernel
theorem d_M_init_148 : decode b_M_init 148 = .ok (.putfield 62, 3) := by decide +kernel
theorem d_M_init_151 : decode b_M_init 151 = .ok (.aload_n 0, 1) := by decide +kernel
theorem d_M_init_152 : decode b_M_init 152 = .ok (.iconst 2, 1) := by decide +kernel
theorem d_M_init_153 : decode b_M_init 153 = .ok (.newarray .int, 2) := by decide +kernel
theorem d_M_init_155 : decode b_M_init 155 = .ok (.putfield 65, 3) := by decide +kernel
theorem d_M_init_158 : decode b_M_init 158 = .ok (.aload_n 0, 1) := by decide +kernel
theorem d_M_init_159 : decode b_M_init 159 = .ok (.iconst 2, 1) := by decide +kernel
theorem d_M_init_160 : decode b_M_init 160 = .ok (.newarray .int, 2) := by decide +kernel
theorem d_M_init_162 : decode b_M_init 162 = .ok (.putfield 68, 3) := by decide +kernel
theorem d_M_init_165 : decode b_M_init 165 = .ok (.aload_n 0, 1) := by decide +kernel
theorem d_M_init_166 : decode b_M_init 166 = .ok (.iconst 2, 1) := by decide +kernel
theorem d_M_init_167 : decode b_M_init 167 = .ok (.newarray .long, 2) := by decide +kernel
theorem d_M_init_169 : decode b_M_init 169 = .ok (.putfield 71, 3) := by decide +kernel
theorem d_M_init_172 : decode b_M_init 172 = .ok (.aload_n 0, 1) := by decide +kernel
theorem d_M_init_173 : decode b_M_init 173 = .ok (.iconst 2, 1) := by decide +kernel
theorem d_M_init_174 : decode b_M_init 174 = .ok (.newarray .int, 2) := by decide +kernel
theorem d_M_init_176 : decode b_M_init 176 = .ok (.putfield 75, 3) := by decide +kernel
theorem d_M_init_179 : decode b_M_init 179 = .ok (.aload_n 0, 1) := by decide +kernel
theorem d_M_init_180 : decode b_M_init 180 = .ok (.iconst 2, 1) := by decide +kernel
theorem d_M_init_181 : decode b_M_init 181 = .ok (.newarray .int, 2) := by decide +kernel
theorem d_M_init_183 : decode b_M_init 183 = .ok (.putfield 78, 3) := by decide +kernel
theorem d_M_init_186 : decode b_M_init 186 = .ok (.aload_n 0, 1) := by decide +kernel
theorem d_M_init_187 : decode b_M_init 187 = .ok (.iconst 2, 1) := by decide +kernel
theorem d_M_init_188 : decode b_M_init 188 = .ok (.newarray .int, 2) := by decide +kernel
theorem d_M_init_190 : decode b_M_init 190 = .ok (.putfield 81, 3) := by decide +kernel
theorem d_M_init_193 : decode b_M_init 193 = .ok (.aload_n 0, 1) := by decide +kernel
theorem d_M_init_194 : decode b_M_init 194 = .ok (.bipush 60, 2) := by decide +kernel
theorem d_M_init_196 : decode b_M_init 196 = .ok (.newarray .int, 2) := by decide +kernel
theorem d_M_init_198 : decode b_M_init 198 = .ok (.putfield 84, 3) := by decide +kernel
theorem d_M_init_201 : decode b_M_init 201 = .ok (.aload_n 0, 1) := by decide +kernel
theorem d_M_init_202 : decode b_M_init 202 = .ok (.bipush 60, 2) := by decide +kernel
theorem d_M_init_204 : decode b_M_init 204 = .ok (.newarray .int, 2) := by decide +kernel
theorem d_M_init_206 : decode b_M_init 206 = .ok (.putfield 87, 3) := by decide +kernel
theorem d_M_init_209 : decode b_M_init 209 = .ok (.aload_n 0, 1) := by decide +kernel
theorem d_M_init_210 : decode b_M_init 210 = .ok (.bipush 60, 2) := by decide +kernel
theorem d_M_init_212 : decode b_M_init 212 = .ok (.newarray .int, 2) := by decide +kernel
theorem d_M_init_214 : decode b_M_init 214 = .ok (.putfield 90, 3) := by decide +kernel
theorem d_M_init_217 : decode b_M_init 217 = .ok (.aload_n 0, 1) := by decide +kernel
theorem d_M_init_218 : decode b_M_init 218 = .ok (.bipush 60, 2) := by decide +kernel
theorem d_M_init_220 : decode b_M_init 220 = .ok (.newarray .int, 2) := by decide +kernel
theorem d_M_init_222 : decode b_M_init 222 = .ok (.putfield 93, 3) := by decide +kernel
theorem d_M_init_225 : decode b_M_init 225 = .ok (.aload_n 0, 1) := by decide +kernel
theorem d_M_init_226 : decode b_M_init 226 = .ok (.bipush 60, 2) := by decide +kernel
theorem d_M_init_228 : decode b_M_init 228 = .ok (.newarray .int, 2) := by decide +kernel
theorem d_M_init_230 : decode b_M_init 230 = .ok (.putfield 96, 3) := by decide +kernel
theorem d_M_init_233 : decode b_M_init 233 = .ok (.aload_n 0, 1) := by decide +kernel
theorem d_M_init_234 : decode b_M_init 234 = .ok (.iconst (-1), 1) := by decide +kernel
theorem d_M_init_235 : decode b_M_init 235 = .ok (.putfield 99, 3) := by decide +kernel
theorem d_M_init_238 : decode b_M_init 238 = .ok (.aload_n 0, 1) := by decide +kernel
theorem d_M_init_239 : decode b_M_init 239 = .ok (.iconst (-1), 1) := by decide +kernel
theorem d_M_init_240 : decode b_M_init 240 = .ok (.putfield 103, 3) := by decide +kernel
theorem d_M_init_243 : decode b_M_init 243 = .ok (.aload_n 0, 1) := by decide +kernel
theorem d_M_init_244 : decode b_M_init 244 = .ok (.iconst (-1), 1) := by decide +kernel
theorem d_M_init_245 : decode b_M_init 245 = .ok (.putfield 106, 3) := by decide +kernel
theorem d_M_init_248 : decode b_M_init 248 = .ok (.aload_n 0, 1) := by decide +kernel
theorem d_M_init_249 : decode b_M_init 249 = .ok (.iconst (-1), 1) := by decide +kernel
theorem d_M_init_250 : decode b_M_init 250 = .ok (.putfield 109, 3) := by decide +kernel
theorem d_M_init_253 : decode b_M_init 253 = .ok (.return_, 1) := by decide +kernel
theorem d_L_law_0 : decode b_L_law 0 = .ok (.new 7, 3) := by decide +kernel
theorem d_L_law_3 : decode b_L_law 3 = .ok (.dup, 1) := by decide +kernel
theorem d_L_law_4 : decode b_L_law 4 = .ok (.invokespecial 9, 3) := by decide +kernel
theorem d_L_law_7 : decode b_L_law 7 = .ok (.astore_n 1, 1) := by decide +kernel
theorem d_L_law_8 : decode b_L_law 8 = .ok (.new 10, 3) := by decide +kernel
theorem d_L_law_11 : decode b_L_law 11 = .ok (.dup, 1) := by decide +kernel
theorem d_L_law_12 : decode b_L_law 12 = .ok (.invokespecial 12, 3) := by decide +kernel
theorem d_L_law_15 : decode b_L_law 15 = .ok (.astore_n 2, 1) := by decide +kernel
theorem d_L_law_16 : decode b_L_law 16 = .ok (.iconst 0, 1) := by decide +kernel
theorem d_L_law_17 : decode b_L_law 17 = .ok (.istore_n 3, 1) := by decide +kernel
theorem d_L_law_18 : decode b_L_law 18 = .ok (.iload_n 3, 1) := by decide +kernel
theorem d_L_law_19 : decode b_L_law 19 = .ok (.aload_n 0, 1) := by decide +kernel
theorem d_L_law_20 : decode b_L_law 20 = .ok (.arraylength, 1) := by decide +kernel
theorem d_L_law_21 : decode b_L_law 21 = .ok (.iconst 4, 1) := by decide +kernel
theorem d_L_law_22 : decode b_L_law 22 = .ok (.isub, 1) := by decide +kernel
theorem d_L_law_23 : decode b_L_law 23 = .ok (.if_icmp .gt 633, 3) := by decide +kernel
theorem d_L_law_26 : decode b_L_law 26 = .ok (.aload_n 0, 1) := by decide +kernel
theorem d_L_law_27 : decode b_L_law 27 = .ok (.iload_n 3, 1) := by decide +kernel
theorem d_L_law_28 : decode b_L_law 28 = .ok (.iaload, 1) := by decide +kernel
theorem d_L_law_29 : decode b_L_law 29 = .ok (.bipush 31, 2) := by decide +kernel
theorem d_L_law_31 : decode b_L_law 31 = .ok (.iand, 1) := by decide +kernel
theorem d_L_law_32 : decode b_L_law 32 = .ok (.tableswitch 618 0 17 #[88, 111, 144, 203, 246, 269, 302, 335, 378, 401, 414, 427, 450, 483, 506, 529, 552, 585], 88) := by decide +kernel
theorem d_L_law_120 : decode b_L_law 120 = .ok (.aload_n 1, 1) := by decide +kernel
theorem d_L_law_121 : decode b_L_law 121 = .ok (.aload_n 0, 1) := by decide +kernel
theorem d_L_law_122 : decode b_L_law 122 = .ok (.iload_n 3, 1) := by decide +kernel
theorem d_L_law_123 : decode b_L_law 123 = .ok (.iconst 1, 1) := by decide +kernel
theorem d_L_law_124 : decode b_L_law 124 = .ok (.iadd, 1) := by decide +kernel
theorem d_L_law_125 : decode b_L_law 125 = .ok (.iaload, 1) := by decide +kernel
theorem d_L_law_126 : decode b_L_law 126 = .ok (.invokevirtual 13, 3) := by decide +kernel
theorem d_L_law_129 : decode b_L_law 129 = .ok (.aload_n 2, 1) := by decide +kernel
theorem d_L_law_130 : decode b_L_law 130 = .ok (.aload_n 0, 1) := by decide +kernel
theorem d_L_law_131 : decode b_L_law 131 = .ok (.iload_n 3, 1) := by decide +kernel
theorem d_L_law_132 : decode b_L_law 132 = .ok (.iconst 1, 1) := by decide +kernel
theorem d_L_law_133 : decode b_L_law 133 = .ok (.iadd, 1) := by decide +kernel
theorem d_L_law_134 : decode b_L_law 134 = .ok (.iaload, 1) := by decide +kernel
theorem d_L_law_135 : decode b_L_law 135 = .ok (.invokevirtual 17, 3) := by decide +kernel
theorem d_L_law_138 : decode b_L_law 138 = .ok (.if_icmp .eq 512, 3) := by decide +kernel
theorem d_L_law_141 : decode b_L_law 141 = .ok (.iconst 0, 1) := by decide +kernel
theorem d_L_law_142 : decode b_L_law 142 = .ok (.ireturn, 1) := by decide +kernel
theorem d_L_law_143 : decode b_L_law 143 = .ok (.aload_n 1, 1) := by decide +kernel
theorem d_L_law_144 : decode b_L_law 144 = .ok (.aload_n 0, 1) := by decide +kernel
theorem d_L_law_145 : decode b_L_law 145 = .ok (.iload_n 3, 1) := by decide +kernel
theorem d_L_law_146 : decode b_L_law 146 = .ok (.iconst 1, 1) := by decide +kernel
theorem d_L_law_147 : decode b_L_law 147 = .ok (.iadd, 1) := by decide +kernel
theorem d_L_law_148 : decode b_L_law 148 = .ok (.iaload, 1) := by decide +kernel
theorem d_L_law_149 : decode b_L_law 149 = .ok (.aload_n 0, 1) := by decide +kernel
theorem d_L_law_150 : decode b_L_law 150 = .ok (.iload_n 3, 1) := by decide +kernel
theorem d_L_law_151 : decode b_L_law 151 = .ok (.iconst 2, 1) := by decide +kernel
theorem d_L_law_152 : decode b_L_law 152 = .ok (.iadd, 1) := by decide +kernel
theorem d_L_law_153 : decode b_L_law 153 = .ok (.iaload, 1) := by decide +kernel
theorem d_L_law_154 : decode b_L_law 154 = .ok (.invokevirtual 18, 3) := by decide +kernel
theorem d_L_law_157 : decode b_L_law 157 = .ok (.aload_n 2, 1) := by decide +kernel
theorem d_L_law_158 : decode b_L_law 158 = .ok (.aload_n 0, 1) := by decide +kernel
theorem d_L_law_159 : decode b_L_law 159 = .ok (.iload_n 3, 1) := by decide +kernel
theorem d_L_law_160 : decode b_L_law 160 = .ok (.iconst 1, 1) := by decide +kernel
theorem d_L_law_161 : decode b_L_law 161 = .ok (.iadd, 1) := by decide +kernel
theorem d_L_law_162 : decode b_L_law 162 = .ok (.iaload, 1) := by decide +kernel
theorem d_L_law_163 : decode b_L_law 163 = .ok (.aload_n 0, 1) := by decide +kernel
theorem d_L_law_164 : decode b_L_law 164 = .ok (.iload_n 3, 1) := by decide +kernel
theorem d_L_law_165 : decode b_L_law 165 = .ok (.iconst 2, 1) := by decide +kernel
theorem d_L_law_166 : decode b_L_law 166 = .ok (.iadd, 1) := by decide +kernel
theorem d_L_law_167 : decode b_L_law 167 = .ok (.iaload, 1) := by decide +kernel
theorem d_L_law_168 : decode b_L_law 168 = .ok (.invokevirtual 22, 3) := by decide +kernel
theorem d_L_law_171 : decode b_L_law 171 = .ok (.if_icmp .eq 479, 3) := by decide +kernel
theorem d_L_law_174 : decode b_L_law 174 = .ok (.iconst 0, 1) := by decide +kernel
theorem d_L_law_175 : decode b_L_law 175 = .ok (.ireturn, 1) := by decide +kernel
theorem d_L_law_176 : decode b_L_law 176 = .ok (.aload_n 1, 1) := by decide +kernel
theorem d_L_law_177 : decode b_L_law 177 = .ok (.aload_n 0, 1) := by decide +kernel
theorem d_L_law_178 : decode b_L_law 178 = .ok (.iload_n 3, 1) := by decide +kernel
theorem d_L_law_179 : decode b_L_law 179 = .ok (.iconst 1, 1) := by decide +kernel
theorem d_L_law_180 : decode b_L_law 180 = .ok (.iadd, 1) := by decide +kernel
theorem d_L_law_181 : decode b_L_law 181 = .ok (.iaload, 1) := by decide +kernel
theorem d_L_law_182 : decode b_L_law 182 = .ok (.aload_n 0, 1) := by decide +kernel
theorem d_L_law_183 : decode b_L_law 183 = .ok (.iload_n 3, 1) := by decide +kernel
theorem d_L_law_184 : decode b_L_law 184 = .ok (.iconst 2, 1) := by decide +kernel
theorem d_L_law_185 : decode b_L_law 185 = .ok (.iadd, 1) := by decide +kernel
theorem d_L_law_186 : decode b_L_law 186 = .ok (.iaload, 1) := by decide +kernel
theorem d_L_law_187 : decode b_L_law 187 = .ok (.aload_n 0, 1) := by decide +kernel
theorem d_L_law_188 : decode b_L_law 188 = .ok (.iload_n 3, 1) := by decide +kernel
theorem d_L_law_189 : decode b_L_law 189 = .ok (.iconst 3, 1) := by decide +kernel
theorem d_L_law_190 : decode b_L_law 190 = .ok (.iadd, 1) := by decide +kernel
theorem d_L_law_191 : decode b_L_law 191 = .ok (.iaload, 1) := by decide +kernel
theorem d_L_law_192 : decode b_L_law 192 = .ok (.ifCond .eq 7, 3) := by decide +kernel
theorem d_L_law_195 : decode b_L_law 195 = .ok (.iconst 1, 1) := by decide +kernel
theorem d_L_law_196 : decode b_L_law 196 = .ok (.goto 4, 3) := by decide +kernel
theorem d_L_law_199 : decode b_L_law 199 = .ok (.iconst 0, 1) := by decide +kernel
theorem d_L_law_200 : decode b_L_law 200 = .ok (.invokevirtual 23, 3) := by decide +kernel
theorem d_L_law_203 : decode b_L_law 203 = .ok (.aload_n 2, 1) := by decide +kernel
theorem d_L_law_204 : decode b_L_law 204 = .ok (.aload_n 0, 1) := by decide +kernel
theorem d_L_law_205 : decode b_L_law 205 = .ok (.iload_n 3, 1) := by decide +kernel
theorem d_L_law_206 : decode b_L_law 206 = .ok (.iconst 1, 1) := by decide +kernel
theorem d_L_law_207 : decode b_L_law 207 = .ok (.iadd, 1) := by decide +kernel
theorem d_L_law_208 : decode b_L_law 208 = .ok (.iaload, 1) := by decide +kernel
theorem d_L_law_209 : decode b_L_law 209 = .ok (.aload_n 0, 1) := by decide +kernel
theorem d_L_law_210 : decode b_L_law 210 = .ok (.iload_n 3, 1) := by decide +kernel
theorem d_L_law_211 : decode b_L_law 211 = .ok (.iconst 2, 1) := by decide +kernel
theorem d_L_law_212 : decode b_L_law 212 = .ok (.iadd, 1) := by decide +kernel
theorem d_L_law_213 : decode b_L_law 213 = .ok (.iaload, 1) := by decide +kernel
theorem d_L_law_214 : decode b_L_law 214 = .ok (.aload_n 0, 1) := by decide +kernel
theorem d_L_law_215 : decode b_L_law 215 = .ok (.iload_n 3, 1) := by decide +kernel
theorem d_L_law_216 : decode b_L_law 216 = .ok (.iconst 3, 1) := by decide +kernel
theorem d_L_law_217 : decode b_L_law 217 = .ok (.iadd, 1) := by decide +kernel
theorem d_L_law_218 : decode b_L_law 218 = .ok (.iaload, 1) := by decide +kernel
theorem d_L_law_219 : decode b_L_law 219 = .ok (.ifCond .eq 7, 3) := by decide +kernel
theorem d_L_law_222 : decode b_L_law 222 = .ok (.iconst 1, 1) := by decide +kernel
theorem d_L_law_223 : decode b_L_law 223 = .ok (.goto 4, 3) := by decide +kernel
theorem d_L_law_226 : decode b_L_law 226 = .ok (.iconst 0, 1) := by decide +kernel
theorem d_L_law_227 : decode b_L_law 227 = .ok (.invokevirtual 27, 3) := by decide +kernel
theorem d_L_law_230 : decode b_L_law 230 = .ok (.if_icmp .eq 420, 3) := by decide +kernel
theorem d_L_law_233 : decode b_L_law 233 = .ok (.iconst 0, 1) := by decide +kernel
theorem d_L_law_234 : decode b_L_law 234 = .ok (.ireturn, 1) := by decide +kernel
theorem d_L_law_235 : decode b_L_law 235 = .ok (.aload_n 1, 1) := by decide +kernel
theorem d_L_law_236 : decode b_L_law 236 = .ok (.aload_n 0, 1) := by decide +kernel
theorem d_L_law_237 : decode b_L_law 237 = .ok (.iload_n 3, 1) := by decide +kernel
theorem d_L_law_238 : decode b_L_law 238 = .ok (.iconst 1, 1) := by decide +kernel
theorem d_L_law_239 : decode b_L_law 239 = .ok (.iadd, 1) := by decide +kernel
theorem d_L_law_240 : decode b_L_law 240 = .ok (.iaload, 1) := by decide +kernel
theorem d_L_law_241 : decode b_L_law 241 = .ok (.aload_n 0, 1) := by decide +kernel
theorem d_L_law_242 : decode b_L_law 242 = .ok (.iload_n 3, 1) := by decide +kernel
theorem d_L_law_243 : decode b_L_law 243 = .ok (.iconst 2, 1) := by decide +kernel
theorem d_L_law_244 : decode b_L_law 244 = .ok (.iadd, 1) := by decide +kernel
theorem d_L_law_245 : decode b_L_law 245 = .ok (.iaload, 1) := by decide +kernel
theorem d_L_law_246 : decode b_L_law 246 = .ok (.aload_n 0, 1) := by decide +kernel
theorem d_L_law_247 : decode b_L_law 247 = .ok (.iload_n 3, 1) := by decide +kernel
theorem d_L_law_248 : decode b_L_law 248 = .ok (.iconst 3, 1) := by decide +kernel
theorem d_L_law_249 : decode b_L_law 249 = .ok (.iadd, 1) := by decide +kernel
theorem d_L_law_250 : decode b_L_law 250 = .ok (.iaload, 1) := by decide +kernel
theorem d_L_law_251 : decode b_L_law 251 = .ok (.invokevirtual 28, 3) := by decide +kernel
theorem d_L_law_254 : decode b_L_law 254 = .ok (.aload_n 2, 1) := by decide +kernel
theorem d_L_law_255 : decode b_L_law 255 = .ok (.aload_n 0, 1) := by decide +kernel
theorem d_L_law_256 : decode b_L_law 256 = .ok (.iload_n 3, 1) := by decide +kernel
theorem d_L_law_257 : decode b_L_law 257 = .ok (.iconst 1, 1) := by decide +kernel
theorem d_L_law_258 : decode b_L_law 258 = .ok (.iadd, 1) := by decide +kernel
theorem d_L_law_259 : decode b_L_law 259 = .ok (.iaload, 1) := by decide +kernel
theorem d_L_law_260 : decode b_L_law 260 = .ok (.aload_n 0, 1) := by decide +kernel
theorem d_L_law_261 : decode b_L_law 261 = .ok (.iload_n 3, 1) := by decide +kernel
theorem d_L_law_262 : decode b_L_law 262 = .ok (.iconst 2, 1) := by decide +kernel
theorem d_L_law_263 : decode b_L_law 263 = .ok (.iadd, 1) := by decide +kernel
theorem d_L_law_264 : decode b_L_law 264 = .ok (.iaload, 1) := by decide +kernel
theorem d_L_law_265 : decode b_L_law 265 = .ok (.aload_n 0, 1) := by decide +kernel
theorem d_L_law_266 : decode b_L_law 266 = .ok (.iload_n 3, 1) := by decide +kernel
theorem d_L_law_267 : decode b_L_law 267 = .ok (.iconst 3, 1) := by decide +kernel
theorem d_L_law_268 : decode b_L_law 268 = .ok (.iadd, 1) := by decide +kernel
theorem d_L_law_269 : decode b_L_law 269 = .ok (.iaload, 1) := by decide +kernel
theorem d_L_law_270 : decode b_L_law 270 = .ok (.invokevirtual 32, 3) := by decide +kernel
theorem d_L_law_273 : decode b_L_law 273 = .ok (.if_icmp .eq 377, 3) := by decide +kernel
theorem d_L_law_276 : decode b_L_law 276 = .ok (.iconst 0, 1) := by decide +kernel
theorem d_L_law_277 : decode b_L_law 277 = .ok (.ireturn, 1) := by decide +kernel
theorem d_L_law_278 : decode b_L_law 278 = .ok (.aload_n 1, 1) := by decide +kernel
theorem d_L_law_279 : decode b_L_law 279 = .ok (.aload_n 0, 1) := by decide +kernel
theorem d_L_law_280 : decode b_L_law 280 = .ok (.iload_n 3, 1) := by decide +kernel
theorem d_L_law_281 : decode b_L_law 281 = .ok (.iconst 1, 1) := by decide +kernel
theorem d_L_law_282 : decode b_L_law 282 = .ok (.iadd, 1) := by decide +kernel
theorem d_L_law_283 : decode b_L_law 283 = .ok (.iaload, 1) := by decide +kernel
theorem d_L_law_284 : decode b_L_law 284 = .ok (.invokevirtual 33, 3) := by decide +kernel
theorem d_L_law_287 : decode b_L_law 287 = .ok (.aload_n 2, 1) := by decide +kernel
theorem d_L_law_288 : decode b_L_law 288 = .ok (.aload_n 0, 1) := by decide +kernel
theorem d_L_law_289 : decode b_L_law 289 = .ok (.iload_n 3, 1) := by decide +kernel
theorem d_L_law_290 : decode b_L_law 290 = .ok (.iconst 1, 1) := by decide +kernel
theorem d_L_law_291 : decode b_L_law 291 = .ok (.iadd, 1) := by decide +kernel
theorem d_L_law_292 : decode b_L_law 292 = .ok (.iaload, 1) := by decide +kernel
theorem d_L_law_293 : decode b_L_law 293 = .ok (.invokevirtual 36, 3) := by decide +kernel
theorem d_L_law_296 : decode b_L_law 296 = .ok (.if_icmp .eq 354, 3) := by decide +kernel
theorem d_L_law_299 : decode b_L_law 299 = .ok (.iconst 0, 1) := by decide +kernel
theorem d_L_law_300 : decode b_L_law 300 = .ok (.ireturn, 1) := by decide +kernel
theorem d_L_law_301 : decode b_L_law 301 = .ok (.aload_n 1, 1) := by decide +kernel
theorem d_L_law_302 : decode b_L_law 302 = .ok (.aload_n 0, 1) := by decide +kernel
theorem d_L_law_303 : decode b_L_law 303 = .ok (.iload_n 3, 1) := by decide +kernel
theorem d_L_law_304 : decode b_L_law 304 = .ok (.iconst 1, 1) := by decide +kernel
theorem d_L_law_305 : decode b_L_law 305 = .ok (.iadd, 1) := by decide +kernel
theorem d_L_law_306 : decode b_L_law 306 = .ok (.iaload, 1) := by decide +kernel
theorem d_L_law_307 : decode b_L_law 307 = .ok (.aload_n 0, 1) := by decide +kernel
theorem d_L_law_308 : decode b_L_law 308 = .ok (.iload_n 3, 1) := by decide +kernel
theorem d_L_law_309 : decode b_L_law 309 = .ok (.iconst 2, 1) := by decide +kernel
theorem d_L_law_310 : decode b_L_law 310 = .ok (.iadd, 1) := by decide +kernel
theorem d_L_law_311 : decode b_L_law 311 = .ok (.iaload, 1) := by decide +kernel
theorem d_L_law_312 : decode b_L_law 312 = .ok (.invokevirtual 37, 3) := by decide +kernel
theorem d_L_law_315 : decode b_L_law 315 = .ok (.aload_n 2, 1) := by decide +kernel
theorem d_L_law_316 : decode b_L_law 316 = .ok (.aload_n 0, 1) := by decide +kernel
theorem d_L_law_317 : decode b_L_law 317 = .ok (.iload_n 3, 1) := by decide +kernel
theorem d_L_law_318 : decode b_L_law 318 = .ok (.iconst 1, 1) := by decide +kernel
theorem d_L_law_319 : decode b_L_law 319 = .ok (.iadd, 1) := by decide +kernel
theorem d_L_law_320 : decode b_L_law 320 = .ok (.iaload, 1) := by decide +kernel
theorem d_L_law_321 : decode b_L_law 321 = .ok (.aload_n 0, 1) := by decide +kernel
theorem d_L_law_322 : decode b_L_law 322 = .ok (.iload_n 3, 1) := by decide +kernel
theorem d_L_law_323 : decode b_L_law 323 = .ok (.iconst 2, 1) := by decide +kernel
theorem d_L_law_324 : decode b_L_law 324 = .ok (.iadd, 1) := by decide +kernel
theorem d_L_law_325 : decode b_L_law 325 = .ok (.iaload, 1) := by decide +kernel
theorem d_L_law_326 : decode b_L_law 326 = .ok (.invokevirtual 40, 3) := by decide +kernel
theorem d_L_law_329 : decode b_L_law 329 = .ok (.if_icmp .eq 321, 3) := by decide +kernel
theorem d_L_law_332 : decode b_L_law 332 = .ok (.iconst 0, 1) := by decide +kernel
theorem d_L_law_333 : decode b_L_law 333 = .ok (.ireturn, 1) := by decide +kernel
theorem d_L_law_334 : decode b_L_law 334 = .ok (.aload_n 1, 1) := by decide +kernel
theorem d_L_law_335 : decode b_L_law 335 = .ok (.aload_n 0, 1) := by decide +kernel
theorem d_L_law_336 : decode b_L_law 336 = .ok (.iload_n 3, 1) := by decide +kernel
theorem d_L_law_337 : decode b_L_law 337 = .ok (.iconst 1, 1) := by decide +kernel
theorem d_L_law_338 : decode b_L_law 338 = .ok (.iadd, 1) := by decide +kernel
theorem d_L_law_339 : decode b_L_law 339 = .ok (.iaload, 1) := by decide +kernel
theorem d_L_law_340 : decode b_L_law 340 = .ok (.aload_n 0, 1) := by decide +kernel
theorem d_L_law_341 : decode b_L_law 341 = .ok (.iload_n 3, 1) := by decide +kernel
theorem d_L_law_342 : decode b_L_law 342 = .ok (.iconst 2, 1) := by decide +kernel
theorem d_L_law_343 : decode b_L_law 343 = .ok (.iadd, 1) := by decide +kernel
theorem d_L_law_344 : decode b_L_law 344 = .ok (.iaload, 1) := by decide +kernel
theorem d_L_law_345 : decode b_L_law 345 = .ok (.invokevirtual 41, 3) := by decide +kernel
theorem d_L_law_348 : decode b_L_law 348 = .ok (.aload_n 2, 1) := by decide +kernel
theorem d_L_law_349 : decode b_L_law 349 = .ok (.aload_n 0, 1) := by decide +kernel
theorem d_L_law_350 : decode b_L_law 350 = .ok (.iload_n 3, 1) := by decide +kernel
theorem d_L_law_351 : decode b_L_law 351 = .ok (.iconst 1, 1) := by decide +kernel
theorem d_L_law_352 : decode b_L_law 352 = .ok (.iadd, 1) := by decide +kernel
theorem d_L_law_353 : decode b_L_law 353 = .ok (.iaload, 1) := by decide +kernel
theorem d_L_law_354 : decode b_L_law 354 = .ok (.aload_n 0, 1) := by decide +kernel
theorem d_L_law_355 : decode b_L_law 355 = .ok (.iload_n 3, 1) := by decide +kernel
theorem d_L_law_356 : decode b_L_law 356 = .ok (.iconst 2, 1) := by decide +kernel
theorem d_L_law_357 : decode b_L_law 357 = .ok (.iadd, 1) := by decide +kernel
theorem d_L_law_358 : decode b_L_law 358 = .ok (.iaload, 1) := by decide +kernel
theorem d_L_law_359 : decode b_L_law 359 = .ok (.invokevirtual 44, 3) := by decide +kernel
theorem d_L_law_362 : decode b_L_law 362 = .ok (.if_icmp .eq 288, 3) := by decide +kernel
theorem d_L_law_365 : decode b_L_law 365 = .ok (.iconst 0, 1) := by decide +kernel
theorem d_L_law_366 : decode b_L_law 366 = .ok (.ireturn, 1) := by decide +kernel
theorem d_L_law_367 : decode b_L_law 367 = .ok (.aload_n 1, 1) := by decide +kernel
theorem d_L_law_368 : decode b_L_law 368 = .ok (.aload_n 0, 1) := by decide +kernel
theorem d_L_law_369 : decode b_L_law 369 = .ok (.iload_n 3, 1) := by decide +kernel
theorem d_L_law_370 : decode b_L_law 370 = .ok (.iconst 1, 1) := by decide +kernel
theorem d_L_law_371 : decode b_L_law 371 = .ok (.iadd, 1) := by decide +kernel
theorem d_L_law_372 : decode b_L_law 372 = .ok (.iaload, 1) := by decide +kernel
theorem d_L_law_373 : decode b_L_law 373 = .ok (.aload_n 0, 1) := by decide +kernel
theorem d_L_law_374 : decode b_L_law 374 = .ok (.iload_n 3, 1) := by decide +kernel
theorem d_L_law_375 : decode b_L_law 375 = .ok (.iconst 2, 1) := by decide +kernel
theorem d_L_law_376 : decode b_L_law 376 = .ok (.iadd, 1) := by decide +kernel
theorem d_L_law_377 : decode b_L_law 377 = .ok (.iaload, 1) := by decide +kernel
theorem d_L_law_378 : decode b_L_law 378 = .ok (.aload_n 0, 1) := by decide +kernel
theorem d_L_law_379 : decode b_L_law 379 = .ok (.iload_n 3, 1) := by decide +kernel
theorem d_L_law_380 : decode b_L_law 380 = .ok (.iconst 3, 1) := by decide +kernel
theorem d_L_law_381 : decode b_L_law 381 = .ok (.iadd, 1) := by decide +kernel
theorem d_L_law_382 : decode b_L_law 382 = .ok (.iaload, 1) := by decide +kernel
theorem d_L_law_383 : decode b_L_law 383 = .ok (.invokevirtual 45, 3) := by decide +kernel
theorem d_L_law_386 : decode b_L_law 386 = .ok (.aload_n 2, 1) := by decide +kernel
theorem d_L_law_387 : decode b_L_law 387 = .ok (.aload_n 0, 1) := by decide +kernel
theorem d_L_law_388 : decode b_L_law 388 = .ok (.iload_n 3, 1) := by decide +kernel
theorem d_L_law_389 : decode b_L_law 389 = .ok (.iconst 1, 1) := by decide +kernel
theorem d_L_law_390 : decode b_L_law 390 = .ok (.iadd, 1) := by decide +kernel
theorem d_L_law_391 : decode b_L_law 391 = .ok (.iaload, 1) := by decide +kernel
theorem d_L_law_392 : decode b_L_law 392 = .ok (.aload_n 0, 1) := by decide +kernel
theorem d_L_law_393 : decode b_L_law 393 = .ok (.iload_n 3, 1) := by decide +kernel
theorem d_L_law_394 : decode b_L_law 394 = .ok (.iconst 2, 1) := by decide +kernel
theorem d_L_law_395 : decode b_L_law 395 = .ok (.iadd, 1) := by decide +kernel
theorem d_L_law_396 : decode b_L_law 396 = .ok (.iaload, 1) := by decide +kernel
theorem d_L_law_397 : decode b_L_law 397 = .ok (.aload_n 0, 1) := by decide +kernel
theorem d_L_law_398 : decode b_L_law 398 = .ok (.iload_n 3, 1) := by decide +kernel
theorem d_L_law_399 : decode b_L_law 399 = .ok (.iconst 3, 1) := by decide +kernel
theorem d_L_law_400 : decode b_L_law 400 = .ok (.iadd, 1) := by decide +kernel
theorem d_L_law_401 : decode b_L_law 401 = .ok (.iaload, 1) := by decide +kernel
theorem d_L_law_402 : decode b_L_law 402 = .ok (.invokevirtual 48, 3) := by decide +kernel
theorem d_L_law_405 : decode b_L_law 405 = .ok (.if_icmp .eq 245, 3) := by decide +kernel
theorem d_L_law_408 : decode b_L_law 408 = .ok (.iconst 0, 1) := by decide +kernel
theorem d_L_law_409 : decode b_L_law 409 = .ok (.ireturn, 1) := by decide +kernel
theorem d_L_law_410 : decode b_L_law 410 = .ok (.aload_n 1, 1) := by decide +kernel
theorem d_L_law_411 : decode b_L_law 411 = .ok (.aload_n 0, 1) := by decide +kernel
theorem d_L_law_412 : decode b_L_law 412 = .ok (.iload_n 3, 1) := by decide +kernel
theorem d_L_law_413 : decode b_L_law 413 = .ok (.iconst 1, 1) := by decide +kernel
theorem d_L_law_414 : decode b_L_law 414 = .ok (.iadd, 1) := by decide +kernel
theorem d_L_law_415 : decode b_L_law 415 = .ok (.iaload, 1) := by decide +kernel
