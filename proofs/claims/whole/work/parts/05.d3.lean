theorem d_Things_fillersFor_37 : decode b_Things_fillersFor 37 = .ok (.getfield 51, 3) := by decide +kernel
theorem d_Things_fillersFor_40 : decode b_Things_fillersFor 40 = .ok (.ldc2_w 62, 3) := by decide +kernel
theorem d_Things_fillersFor_43 : decode b_Things_fillersFor 43 = .ok (.lxor, 1) := by decide +kernel
theorem d_Things_fillersFor_44 : decode b_Things_fillersFor 44 = .ok (.land, 1) := by decide +kernel
theorem d_Things_fillersFor_45 : decode b_Things_fillersFor 45 = .ok (.lreturn, 1) := by decide +kernel
theorem d_Things_fillersFor_46 : decode b_Things_fillersFor 46 = .ok (.aload_n 0, 1) := by decide +kernel
theorem d_Things_fillersFor_47 : decode b_Things_fillersFor 47 = .ok (.getfield 45, 3) := by decide +kernel
theorem d_Things_fillersFor_50 : decode b_Things_fillersFor 50 = .ok (.aload_n 0, 1) := by decide +kernel
theorem d_Things_fillersFor_51 : decode b_Things_fillersFor 51 = .ok (.getfield 51, 3) := by decide +kernel
theorem d_Things_fillersFor_54 : decode b_Things_fillersFor 54 = .ok (.ldc2_w 62, 3) := by decide +kernel
theorem d_Things_fillersFor_57 : decode b_Things_fillersFor 57 = .ok (.lxor, 1) := by decide +kernel
theorem d_Things_fillersFor_58 : decode b_Things_fillersFor 58 = .ok (.land, 1) := by decide +kernel
theorem d_Things_fillersFor_59 : decode b_Things_fillersFor 59 = .ok (.lreturn, 1) := by decide +kernel
theorem d_Things_fillersFor_60 : decode b_Things_fillersFor 60 = .ok (.aload_n 0, 1) := by decide +kernel
theorem d_Things_fillersFor_61 : decode b_Things_fillersFor 61 = .ok (.getfield 48, 3) := by decide +kernel
theorem d_Things_fillersFor_64 : decode b_Things_fillersFor 64 = .ok (.lreturn, 1) := by decide +kernel
theorem d_Things_fillersFor_65 : decode b_Things_fillersFor 65 = .ok (.aload_n 0, 1) := by decide +kernel
theorem d_Things_fillersFor_66 : decode b_Things_fillersFor 66 = .ok (.getfield 41, 3) := by decide +kernel
theorem d_Things_fillersFor_69 : decode b_Things_fillersFor 69 = .ok (.aload_n 0, 1) := by decide +kernel
theorem d_Things_fillersFor_70 : decode b_Things_fillersFor 70 = .ok (.getfield 51, 3) := by decide +kernel
theorem d_Things_fillersFor_73 : decode b_Things_fillersFor 73 = .ok (.land, 1) := by decide +kernel
theorem d_Things_fillersFor_74 : decode b_Things_fillersFor 74 = .ok (.lreturn, 1) := by decide +kernel
theorem d_Things_fillersFor_75 : decode b_Things_fillersFor 75 = .ok (.lconst 0, 1) := by decide +kernel
theorem d_Things_fillersFor_76 : decode b_Things_fillersFor 76 = .ok (.lreturn, 1) := by decide +kernel
theorem d_Trial_fillFrom_0 : decode b_Trial_fillFrom 0 = .ok (.iload_n 1, 1) := by decide +kernel
theorem d_Trial_fillFrom_1 : decode b_Trial_fillFrom 1 = .ok (.istore_n 2, 1) := by decide +kernel
theorem d_Trial_fillFrom_2 : decode b_Trial_fillFrom 2 = .ok (.iload_n 2, 1) := by decide +kernel
theorem d_Trial_fillFrom_3 : decode b_Trial_fillFrom 3 = .ok (.aload_n 0, 1) := by decide +kernel
theorem d_Trial_fillFrom_4 : decode b_Trial_fillFrom 4 = .ok (.getfield 44, 3) := by decide +kernel
theorem d_Trial_fillFrom_7 : decode b_Trial_fillFrom 7 = .ok (.aload_n 0, 1) := by decide +kernel
theorem d_Trial_fillFrom_8 : decode b_Trial_fillFrom 8 = .ok (.getfield 33, 3) := by decide +kernel
theorem d_Trial_fillFrom_11 : decode b_Trial_fillFrom 11 = .ok (.invokevirtual 70, 3) := by decide +kernel
theorem d_Trial_fillFrom_14 : decode b_Trial_fillFrom 14 = .ok (.if_icmp .ge 126, 3) := by decide +kernel
theorem d_Trial_fillFrom_17 : decode b_Trial_fillFrom 17 = .ok (.aload_n 0, 1) := by decide +kernel
theorem d_Trial_fillFrom_18 : decode b_Trial_fillFrom 18 = .ok (.getfield 44, 3) := by decide +kernel
theorem d_Trial_fillFrom_21 : decode b_Trial_fillFrom 21 = .ok (.aload_n 0, 1) := by decide +kernel
theorem d_Trial_fillFrom_22 : decode b_Trial_fillFrom 22 = .ok (.getfield 33, 3) := by decide +kernel
theorem d_Trial_fillFrom_25 : decode b_Trial_fillFrom 25 = .ok (.iload_n 2, 1) := by decide +kernel
theorem d_Trial_fillFrom_26 : decode b_Trial_fillFrom 26 = .ok (.invokevirtual 79, 3) := by decide +kernel
theorem d_Trial_fillFrom_29 : decode b_Trial_fillFrom 29 = .ok (.istore_n 3, 1) := by decide +kernel
theorem d_Trial_fillFrom_30 : decode b_Trial_fillFrom 30 = .ok (.iload_n 3, 1) := by decide +kernel
theorem d_Trial_fillFrom_31 : decode b_Trial_fillFrom 31 = .ok (.ifCond .ne 25, 3) := by decide +kernel
theorem d_Trial_fillFrom_34 : decode b_Trial_fillFrom 34 = .ok (.aload_n 0, 1) := by decide +kernel
theorem d_Trial_fillFrom_35 : decode b_Trial_fillFrom 35 = .ok (.getfield 26, 3) := by decide +kernel
theorem d_Trial_fillFrom_38 : decode b_Trial_fillFrom 38 = .ok (.aload_n 0, 1) := by decide +kernel
theorem d_Trial_fillFrom_39 : decode b_Trial_fillFrom 39 = .ok (.getfield 44, 3) := by decide +kernel
theorem d_Trial_fillFrom_42 : decode b_Trial_fillFrom 42 = .ok (.aload_n 0, 1) := by decide +kernel
theorem d_Trial_fillFrom_43 : decode b_Trial_fillFrom 43 = .ok (.getfield 33, 3) := by decide +kernel
theorem d_Trial_fillFrom_46 : decode b_Trial_fillFrom 46 = .ok (.iload_n 2, 1) := by decide +kernel
theorem d_Trial_fillFrom_47 : decode b_Trial_fillFrom 47 = .ok (.invokevirtual 102, 3) := by decide +kernel
theorem d_Trial_fillFrom_50 : decode b_Trial_fillFrom 50 = .ok (.invokevirtual 147, 3) := by decide +kernel
theorem d_Trial_fillFrom_53 : decode b_Trial_fillFrom 53 = .ok (.goto 81, 3) := by decide +kernel
theorem d_Trial_fillFrom_56 : decode b_Trial_fillFrom 56 = .ok (.iload_n 3, 1) := by decide +kernel
theorem d_Trial_fillFrom_57 : decode b_Trial_fillFrom 57 = .ok (.invokestatic 200, 3) := by decide +kernel
theorem d_Trial_fillFrom_60 : decode b_Trial_fillFrom 60 = .ok (.ifCond .eq 74, 3) := by decide +kernel
theorem d_Trial_fillFrom_63 : decode b_Trial_fillFrom 63 = .ok (.aload_n 0, 1) := by decide +kernel
theorem d_Trial_fillFrom_64 : decode b_Trial_fillFrom 64 = .ok (.getfield 40, 3) := by decide +kernel
theorem d_Trial_fillFrom_67 : decode b_Trial_fillFrom 67 = .ok (.iload_n 3, 1) := by decide +kernel
theorem d_Trial_fillFrom_68 : decode b_Trial_fillFrom 68 = .ok (.invokevirtual 203, 3) := by decide +kernel
theorem d_Trial_fillFrom_71 : decode b_Trial_fillFrom 71 = .ok (.aload_n 0, 1) := by decide +kernel
theorem d_Trial_fillFrom_72 : decode b_Trial_fillFrom 72 = .ok (.getfield 12, 3) := by decide +kernel
theorem d_Trial_fillFrom_75 : decode b_Trial_fillFrom 75 = .ok (.getfield 159, 3) := by decide +kernel
theorem d_Trial_fillFrom_78 : decode b_Trial_fillFrom 78 = .ok (.aload_n 0, 1) := by decide +kernel
theorem d_Trial_fillFrom_79 : decode b_Trial_fillFrom 79 = .ok (.getfield 18, 3) := by decide +kernel
theorem d_Trial_fillFrom_82 : decode b_Trial_fillFrom 82 = .ok (.getfield 159, 3) := by decide +kernel
theorem d_Trial_fillFrom_85 : decode b_Trial_fillFrom 85 = .ok (.lor, 1) := by decide +kernel
theorem d_Trial_fillFrom_86 : decode b_Trial_fillFrom 86 = .ok (.ldc2_w 192, 3) := by decide +kernel
theorem d_Trial_fillFrom_89 : decode b_Trial_fillFrom 89 = .ok (.lxor, 1) := by decide +kernel
theorem d_Trial_fillFrom_90 : decode b_Trial_fillFrom 90 = .ok (.land, 1) := by decide +kernel
theorem d_Trial_fillFrom_91 : decode b_Trial_fillFrom 91 = .ok (.lstore 4, 2) := by decide +kernel
theorem d_Trial_fillFrom_93 : decode b_Trial_fillFrom 93 = .ok (.lload 4, 2) := by decide +kernel
theorem d_Trial_fillFrom_95 : decode b_Trial_fillFrom 95 = .ok (.invokestatic 176, 3) := by decide +kernel
theorem d_Trial_fillFrom_98 : decode b_Trial_fillFrom 98 = .ok (.iconst 1, 1) := by decide +kernel
theorem d_Trial_fillFrom_99 : decode b_Trial_fillFrom 99 = .ok (.if_icmp .eq 5, 3) := by decide +kernel
theorem d_Trial_fillFrom_102 : decode b_Trial_fillFrom 102 = .ok (.iconst 0, 1) := by decide +kernel
theorem d_Trial_fillFrom_103 : decode b_Trial_fillFrom 103 = .ok (.ireturn, 1) := by decide +kernel
theorem d_Trial_fillFrom_104 : decode b_Trial_fillFrom 104 = .ok (.aload_n 0, 1) := by decide +kernel
theorem d_Trial_fillFrom_105 : decode b_Trial_fillFrom 105 = .ok (.iload_n 3, 1) := by decide +kernel
theorem d_Trial_fillFrom_106 : decode b_Trial_fillFrom 106 = .ok (.invokevirtual 140, 3) := by decide +kernel
theorem d_Trial_fillFrom_109 : decode b_Trial_fillFrom 109 = .ok (.lload 4, 2) := by decide +kernel
theorem d_Trial_fillFrom_111 : decode b_Trial_fillFrom 111 = .ok (.putfield 159, 3) := by decide +kernel
theorem d_Trial_fillFrom_114 : decode b_Trial_fillFrom 114 = .ok (.aload_n 0, 1) := by decide +kernel
theorem d_Trial_fillFrom_115 : decode b_Trial_fillFrom 115 = .ok (.getfield 26, 3) := by decide +kernel
theorem d_Trial_fillFrom_118 : decode b_Trial_fillFrom 118 = .ok (.sipush 20000, 3) := by decide +kernel
theorem d_Trial_fillFrom_121 : decode b_Trial_fillFrom 121 = .ok (.aload_n 0, 1) := by decide +kernel
theorem d_Trial_fillFrom_122 : decode b_Trial_fillFrom 122 = .ok (.getfield 40, 3) := by decide +kernel
theorem d_Trial_fillFrom_125 : decode b_Trial_fillFrom 125 = .ok (.lload 4, 2) := by decide +kernel
theorem d_Trial_fillFrom_127 : decode b_Trial_fillFrom 127 = .ok (.invokevirtual 206, 3) := by decide +kernel
theorem d_Trial_fillFrom_130 : decode b_Trial_fillFrom 130 = .ok (.iadd, 1) := by decide +kernel
theorem d_Trial_fillFrom_131 : decode b_Trial_fillFrom 131 = .ok (.invokevirtual 147, 3) := by decide +kernel
theorem d_Trial_fillFrom_134 : decode b_Trial_fillFrom 134 = .ok (.iinc 2 1, 3) := by decide +kernel
theorem d_Trial_fillFrom_137 : decode b_Trial_fillFrom 137 = .ok (.goto (-135), 3) := by decide +kernel
theorem d_Trial_fillFrom_140 : decode b_Trial_fillFrom 140 = .ok (.iconst 1, 1) := by decide +kernel
theorem d_Trial_fillFrom_141 : decode b_Trial_fillFrom 141 = .ok (.ireturn, 1) := by decide +kernel
theorem d_Trial_fillOrAsk_0 : decode b_Trial_fillOrAsk 0 = .ok (.aload_n 0, 1) := by decide +kernel
theorem d_Trial_fillOrAsk_1 : decode b_Trial_fillOrAsk 1 = .ok (.getfield 44, 3) := by decide +kernel
theorem d_Trial_fillOrAsk_4 : decode b_Trial_fillOrAsk 4 = .ok (.aload_n 0, 1) := by decide +kernel
theorem d_Trial_fillOrAsk_5 : decode b_Trial_fillOrAsk 5 = .ok (.getfield 33, 3) := by decide +kernel
theorem d_Trial_fillOrAsk_8 : decode b_Trial_fillOrAsk 8 = .ok (.iload_n 1, 1) := by decide +kernel
theorem d_Trial_fillOrAsk_9 : decode b_Trial_fillOrAsk 9 = .ok (.invokevirtual 194, 3) := by decide +kernel
theorem d_Trial_fillOrAsk_12 : decode b_Trial_fillOrAsk 12 = .ok (.istore_n 2, 1) := by decide +kernel
theorem d_Trial_fillOrAsk_13 : decode b_Trial_fillOrAsk 13 = .ok (.iload_n 2, 1) := by decide +kernel
theorem d_Trial_fillOrAsk_14 : decode b_Trial_fillOrAsk 14 = .ok (.iconst (-1), 1) := by decide +kernel
theorem d_Trial_fillOrAsk_15 : decode b_Trial_fillOrAsk 15 = .ok (.if_icmp .ne 15, 3) := by decide +kernel
theorem d_Trial_fillOrAsk_18 : decode b_Trial_fillOrAsk 18 = .ok (.aload_n 0, 1) := by decide +kernel
theorem d_Trial_fillOrAsk_19 : decode b_Trial_fillOrAsk 19 = .ok (.iconst 5, 1) := by decide +kernel
theorem d_Trial_fillOrAsk_20 : decode b_Trial_fillOrAsk 20 = .ok (.aload_n 0, 1) := by decide +kernel
theorem d_Trial_fillOrAsk_21 : decode b_Trial_fillOrAsk 21 = .ok (.getfield 83, 3) := by decide +kernel
theorem d_Trial_fillOrAsk_24 : decode b_Trial_fillOrAsk 24 = .ok (.invokevirtual 136, 3) := by decide +kernel
theorem d_Trial_fillOrAsk_27 : decode b_Trial_fillOrAsk 27 = .ok (.goto 87, 3) := by decide +kernel
theorem d_Trial_fillOrAsk_30 : decode b_Trial_fillOrAsk 30 = .ok (.aload_n 0, 1) := by decide +kernel
theorem d_Trial_fillOrAsk_31 : decode b_Trial_fillOrAsk 31 = .ok (.iload_n 1, 1) := by decide +kernel
theorem d_Trial_fillOrAsk_32 : decode b_Trial_fillOrAsk 32 = .ok (.invokevirtual 197, 3) := by decide +kernel
theorem d_Trial_fillOrAsk_35 : decode b_Trial_fillOrAsk 35 = .ok (.ifCond .ne 79, 3) := by decide +kernel
theorem d_Trial_fillOrAsk_38 : decode b_Trial_fillOrAsk 38 = .ok (.aload_n 0, 1) := by decide +kernel
theorem d_Trial_fillOrAsk_39 : decode b_Trial_fillOrAsk 39 = .ok (.getfield 30, 3) := by decide +kernel
theorem d_Trial_fillOrAsk_42 : decode b_Trial_fillOrAsk 42 = .ok (.aload_n 0, 1) := by decide +kernel
theorem d_Trial_fillOrAsk_43 : decode b_Trial_fillOrAsk 43 = .ok (.getfield 44, 3) := by decide +kernel
theorem d_Trial_fillOrAsk_46 : decode b_Trial_fillOrAsk 46 = .ok (.aload_n 0, 1) := by decide +kernel
theorem d_Trial_fillOrAsk_47 : decode b_Trial_fillOrAsk 47 = .ok (.getfield 33, 3) := by decide +kernel
theorem d_Trial_fillOrAsk_50 : decode b_Trial_fillOrAsk 50 = .ok (.iload_n 2, 1) := by decide +kernel
theorem d_Trial_fillOrAsk_51 : decode b_Trial_fillOrAsk 51 = .ok (.invokevirtual 79, 3) := by decide +kernel
theorem d_Trial_fillOrAsk_54 : decode b_Trial_fillOrAsk 54 = .ok (.invokevirtual 147, 3) := by decide +kernel
theorem d_Trial_fillOrAsk_57 : decode b_Trial_fillOrAsk 57 = .ok (.iload_n 1, 1) := by decide +kernel
theorem d_Trial_fillOrAsk_58 : decode b_Trial_fillOrAsk 58 = .ok (.istore_n 3, 1) := by decide +kernel
theorem d_Trial_fillOrAsk_59 : decode b_Trial_fillOrAsk 59 = .ok (.iload_n 3, 1) := by decide +kernel
theorem d_Trial_fillOrAsk_60 : decode b_Trial_fillOrAsk 60 = .ok (.iload_n 2, 1) := by decide +kernel
theorem d_Trial_fillOrAsk_61 : decode b_Trial_fillOrAsk 61 = .ok (.if_icmp .ge 43, 3) := by decide +kernel
theorem d_Trial_fillOrAsk_64 : decode b_Trial_fillOrAsk 64 = .ok (.aload_n 0, 1) := by decide +kernel
theorem d_Trial_fillOrAsk_65 : decode b_Trial_fillOrAsk 65 = .ok (.getfield 44, 3) := by decide +kernel
theorem d_Trial_fillOrAsk_68 : decode b_Trial_fillOrAsk 68 = .ok (.aload_n 0, 1) := by decide +kernel
theorem d_Trial_fillOrAsk_69 : decode b_Trial_fillOrAsk 69 = .ok (.getfield 33, 3) := by decide +kernel
theorem d_Trial_fillOrAsk_72 : decode b_Trial_fillOrAsk 72 = .ok (.iload_n 3, 1) := by decide +kernel
theorem d_Trial_fillOrAsk_73 : decode b_Trial_fillOrAsk 73 = .ok (.invokevirtual 79, 3) := by decide +kernel
theorem d_Trial_fillOrAsk_76 : decode b_Trial_fillOrAsk 76 = .ok (.ifCond .ne 22, 3) := by decide +kernel
theorem d_Trial_fillOrAsk_79 : decode b_Trial_fillOrAsk 79 = .ok (.aload_n 0, 1) := by decide +kernel
theorem d_Trial_fillOrAsk_80 : decode b_Trial_fillOrAsk 80 = .ok (.getfield 30, 3) := by decide +kernel
theorem d_Trial_fillOrAsk_83 : decode b_Trial_fillOrAsk 83 = .ok (.aload_n 0, 1) := by decide +kernel
theorem d_Trial_fillOrAsk_84 : decode b_Trial_fillOrAsk 84 = .ok (.getfield 44, 3) := by decide +kernel
theorem d_Trial_fillOrAsk_87 : decode b_Trial_fillOrAsk 87 = .ok (.aload_n 0, 1) := by decide +kernel
theorem d_Trial_fillOrAsk_88 : decode b_Trial_fillOrAsk 88 = .ok (.getfield 33, 3) := by decide +kernel
theorem d_Trial_fillOrAsk_91 : decode b_Trial_fillOrAsk 91 = .ok (.iload_n 3, 1) := by decide +kernel
theorem d_Trial_fillOrAsk_92 : decode b_Trial_fillOrAsk 92 = .ok (.invokevirtual 102, 3) := by decide +kernel
theorem d_Trial_fillOrAsk_95 : decode b_Trial_fillOrAsk 95 = .ok (.invokevirtual 147, 3) := by decide +kernel
theorem d_Trial_fillOrAsk_98 : decode b_Trial_fillOrAsk 98 = .ok (.iinc 3 1, 3) := by decide +kernel
theorem d_Trial_fillOrAsk_101 : decode b_Trial_fillOrAsk 101 = .ok (.goto (-42), 3) := by decide +kernel
theorem d_Trial_fillOrAsk_104 : decode b_Trial_fillOrAsk 104 = .ok (.aload_n 0, 1) := by decide +kernel
theorem d_Trial_fillOrAsk_105 : decode b_Trial_fillOrAsk 105 = .ok (.bipush 16, 2) := by decide +kernel
theorem d_Trial_fillOrAsk_107 : decode b_Trial_fillOrAsk 107 = .ok (.aload_n 0, 1) := by decide +kernel
theorem d_Trial_fillOrAsk_108 : decode b_Trial_fillOrAsk 108 = .ok (.getfield 83, 3) := by decide +kernel
theorem d_Trial_fillOrAsk_111 : decode b_Trial_fillOrAsk 111 = .ok (.invokevirtual 136, 3) := by decide +kernel
theorem d_Trial_fillOrAsk_114 : decode b_Trial_fillOrAsk 114 = .ok (.return_, 1) := by decide +kernel
theorem d_Trial_tryLine_0 : decode b_Trial_tryLine 0 = .ok (.aload_n 0, 1) := by decide +kernel
theorem d_Trial_tryLine_1 : decode b_Trial_tryLine 1 = .ok (.iload_n 1, 1) := by decide +kernel
theorem d_Trial_tryLine_2 : decode b_Trial_tryLine 2 = .ok (.invokevirtual 67, 3) := by decide +kernel
theorem d_Trial_tryLine_5 : decode b_Trial_tryLine 5 = .ok (.iconst 0, 1) := by decide +kernel
theorem d_Trial_tryLine_6 : decode b_Trial_tryLine 6 = .ok (.istore_n 2, 1) := by decide +kernel
theorem d_Trial_tryLine_7 : decode b_Trial_tryLine 7 = .ok (.iload_n 2, 1) := by decide +kernel
theorem d_Trial_tryLine_8 : decode b_Trial_tryLine 8 = .ok (.aload_n 0, 1) := by decide +kernel
theorem d_Trial_tryLine_9 : decode b_Trial_tryLine 9 = .ok (.getfield 44, 3) := by decide +kernel
theorem d_Trial_tryLine_12 : decode b_Trial_tryLine 12 = .ok (.aload_n 0, 1) := by decide +kernel
theorem d_Trial_tryLine_13 : decode b_Trial_tryLine 13 = .ok (.getfield 33, 3) := by decide +kernel
theorem d_Trial_tryLine_16 : decode b_Trial_tryLine 16 = .ok (.invokevirtual 70, 3) := by decide +kernel
theorem d_Trial_tryLine_19 : decode b_Trial_tryLine 19 = .ok (.if_icmp .ge 166, 3) := by decide +kernel
theorem d_Trial_tryLine_22 : decode b_Trial_tryLine 22 = .ok (.aload_n 0, 1) := by decide +kernel
theorem d_Trial_tryLine_23 : decode b_Trial_tryLine 23 = .ok (.getfield 76, 3) := by decide +kernel
theorem d_Trial_tryLine_26 : decode b_Trial_tryLine 26 = .ok (.ifCond .ne 159, 3) := by decide +kernel
theorem d_Trial_tryLine_29 : decode b_Trial_tryLine 29 = .ok (.aload_n 0, 1) := by decide +kernel
theorem d_Trial_tryLine_30 : decode b_Trial_tryLine 30 = .ok (.getfield 44, 3) := by decide +kernel
theorem d_Trial_tryLine_33 : decode b_Trial_tryLine 33 = .ok (.aload_n 0, 1) := by decide +kernel
theorem d_Trial_tryLine_34 : decode b_Trial_tryLine 34 = .ok (.getfield 33, 3) := by decide +kernel
theorem d_Trial_tryLine_37 : decode b_Trial_tryLine 37 = .ok (.iload_n 2, 1) := by decide +kernel
theorem d_Trial_tryLine_38 : decode b_Trial_tryLine 38 = .ok (.invokevirtual 79, 3) := by decide +kernel
theorem d_Trial_tryLine_41 : decode b_Trial_tryLine 41 = .ok (.istore_n 3, 1) := by decide +kernel
theorem d_Trial_tryLine_42 : decode b_Trial_tryLine 42 = .ok (.iload_n 3, 1) := by decide +kernel
theorem d_Trial_tryLine_43 : decode b_Trial_tryLine 43 = .ok (.iconst 1, 1) := by decide +kernel
theorem d_Trial_tryLine_44 : decode b_Trial_tryLine 44 = .ok (.if_icmp .ne 6, 3) := by decide +kernel
theorem d_Trial_tryLine_47 : decode b_Trial_tryLine 47 = .ok (.goto 132, 3) := by decide +kernel
theorem d_Trial_tryLine_50 : decode b_Trial_tryLine 50 = .ok (.aload_n 0, 1) := by decide +kernel
theorem d_Trial_tryLine_51 : decode b_Trial_tryLine 51 = .ok (.getfield 83, 3) := by decide +kernel
theorem d_Trial_tryLine_54 : decode b_Trial_tryLine 54 = .ok (.aload_n 0, 1) := by decide +kernel
theorem d_Trial_tryLine_55 : decode b_Trial_tryLine 55 = .ok (.getfield 52, 3) := by decide +kernel
theorem d_Trial_tryLine_58 : decode b_Trial_tryLine 58 = .ok (.invokevirtual 86, 3) := by decide +kernel
theorem d_Trial_tryLine_61 : decode b_Trial_tryLine 61 = .ok (.if_icmp .lt 11, 3) := by decide +kernel
theorem d_Trial_tryLine_64 : decode b_Trial_tryLine 64 = .ok (.aload_n 0, 1) := by decide +kernel
theorem d_Trial_tryLine_65 : decode b_Trial_tryLine 65 = .ok (.iload_n 2, 1) := by decide +kernel
theorem d_Trial_tryLine_66 : decode b_Trial_tryLine 66 = .ok (.invokevirtual 90, 3) := by decide +kernel
theorem d_Trial_tryLine_69 : decode b_Trial_tryLine 69 = .ok (.goto 116, 3) := by decide +kernel
theorem d_Trial_tryLine_72 : decode b_Trial_tryLine 72 = .ok (.iload_n 3, 1) := by decide +kernel
theorem d_Trial_tryLine_73 : decode b_Trial_tryLine 73 = .ok (.ifCond .ne 11, 3) := by decide +kernel
theorem d_Trial_tryLine_76 : decode b_Trial_tryLine 76 = .ok (.aload_n 0, 1) := by decide +kernel
theorem d_Trial_tryLine_77 : decode b_Trial_tryLine 77 = .ok (.iload_n 2, 1) := by decide +kernel
theorem d_Trial_tryLine_78 : decode b_Trial_tryLine 78 = .ok (.invokevirtual 93, 3) := by decide +kernel
theorem d_Trial_tryLine_81 : decode b_Trial_tryLine 81 = .ok (.goto 98, 3) := by decide +kernel
theorem d_Trial_tryLine_84 : decode b_Trial_tryLine 84 = .ok (.iload_n 3, 1) := by decide +kernel
theorem d_Trial_tryLine_85 : decode b_Trial_tryLine 85 = .ok (.bipush 9, 2) := by decide +kernel
theorem d_Trial_tryLine_87 : decode b_Trial_tryLine 87 = .ok (.if_icmp .ne 11, 3) := by decide +kernel
theorem d_Trial_tryLine_90 : decode b_Trial_tryLine 90 = .ok (.aload_n 0, 1) := by decide +kernel
theorem d_Trial_tryLine_91 : decode b_Trial_tryLine 91 = .ok (.iload_n 2, 1) := by decide +kernel
theorem d_Trial_tryLine_92 : decode b_Trial_tryLine 92 = .ok (.invokevirtual 96, 3) := by decide +kernel
theorem d_Trial_tryLine_95 : decode b_Trial_tryLine 95 = .ok (.goto 84, 3) := by decide +kernel
theorem d_Trial_tryLine_98 : decode b_Trial_tryLine 98 = .ok (.iload_n 3, 1) := by decide +kernel
theorem d_Trial_tryLine_99 : decode b_Trial_tryLine 99 = .ok (.bipush 10, 2) := by decide +kernel
theorem d_Trial_tryLine_101 : decode b_Trial_tryLine 101 = .ok (.if_icmp .ne 10, 3) := by decide +kernel
theorem d_Trial_tryLine_104 : decode b_Trial_tryLine 104 = .ok (.aload_n 0, 1) := by decide +kernel
theorem d_Trial_tryLine_105 : decode b_Trial_tryLine 105 = .ok (.invokevirtual 99, 3) := by decide +kernel
theorem d_Trial_tryLine_108 : decode b_Trial_tryLine 108 = .ok (.goto 71, 3) := by decide +kernel
theorem d_Trial_tryLine_111 : decode b_Trial_tryLine 111 = .ok (.iload_n 3, 1) := by decide +kernel
theorem d_Trial_tryLine_112 : decode b_Trial_tryLine 112 = .ok (.bipush 11, 2) := by decide +kernel
theorem d_Trial_tryLine_114 : decode b_Trial_tryLine 114 = .ok (.if_icmp .ne 22, 3) := by decide +kernel
theorem d_Trial_tryLine_117 : decode b_Trial_tryLine 117 = .ok (.aload_n 0, 1) := by decide +kernel
theorem d_Trial_tryLine_118 : decode b_Trial_tryLine 118 = .ok (.aload_n 0, 1) := by decide +kernel
theorem d_Trial_tryLine_119 : decode b_Trial_tryLine 119 = .ok (.getfield 44, 3) := by decide +kernel
theorem d_Trial_tryLine_122 : decode b_Trial_tryLine 122 = .ok (.aload_n 0, 1) := by decide +kernel
theorem d_Trial_tryLine_123 : decode b_Trial_tryLine 123 = .ok (.getfield 33, 3) := by decide +kernel
theorem d_Trial_tryLine_126 : decode b_Trial_tryLine 126 = .ok (.iload_n 2, 1) := by decide +kernel
theorem d_Trial_tryLine_127 : decode b_Trial_tryLine 127 = .ok (.invokevirtual 102, 3) := by decide +kernel
theorem d_Trial_tryLine_130 : decode b_Trial_tryLine 130 = .ok (.invokevirtual 105, 3) := by decide +kernel
theorem d_Trial_tryLine_133 : decode b_Trial_tryLine 133 = .ok (.goto 46, 3) := by decide +kernel
theorem d_Trial_tryLine_136 : decode b_Trial_tryLine 136 = .ok (.iload_n 3, 1) := by decide +kernel
theorem d_Trial_tryLine_137 : decode b_Trial_tryLine 137 = .ok (.invokestatic 108, 3) := by decide +kernel
theorem d_Trial_tryLine_140 : decode b_Trial_tryLine 140 = .ok (.ifCond .eq 11, 3) := by decide +kernel
theorem d_Trial_tryLine_143 : decode b_Trial_tryLine 143 = .ok (.aload_n 0, 1) := by decide +kernel
theorem d_Trial_tryLine_144 : decode b_Trial_tryLine 144 = .ok (.iload_n 3, 1) := by decide +kernel
theorem d_Trial_tryLine_145 : decode b_Trial_tryLine 145 = .ok (.invokevirtual 112, 3) := by decide +kernel
theorem d_Trial_tryLine_148 : decode b_Trial_tryLine 148 = .ok (.goto 31, 3) := by decide +kernel
theorem d_Trial_tryLine_151 : decode b_Trial_tryLine 151 = .ok (.aload_n 0, 1) := by decide +kernel
theorem d_Trial_tryLine_152 : decode b_Trial_tryLine 152 = .ok (.getfield 52, 3) := by decide +kernel
theorem d_Trial_tryLine_155 : decode b_Trial_tryLine 155 = .ok (.aload_n 0, 1) := by decide +kernel
theorem d_Trial_tryLine_156 : decode b_Trial_tryLine 156 = .ok (.getfield 83, 3) := by decide +kernel
theorem d_Trial_tryLine_159 : decode b_Trial_tryLine 159 = .ok (.invokevirtual 115, 3) := by decide +kernel
theorem d_Trial_tryLine_162 : decode b_Trial_tryLine 162 = .ok (.iconst 4, 1) := by decide +kernel
theorem d_Trial_tryLine_163 : decode b_Trial_tryLine 163 = .ok (.if_icmp .ne 11, 3) := by decide +kernel
theorem d_Trial_tryLine_166 : decode b_Trial_tryLine 166 = .ok (.aload_n 0, 1) := by decide +kernel
theorem d_Trial_tryLine_167 : decode b_Trial_tryLine 167 = .ok (.iload_n 3, 1) := by decide +kernel
theorem d_Trial_tryLine_168 : decode b_Trial_tryLine 168 = .ok (.invokevirtual 118, 3) := by decide +kernel
theorem d_Trial_tryLine_171 : decode b_Trial_tryLine 171 = .ok (.goto 8, 3) := by decide +kernel
theorem d_Trial_tryLine_174 : decode b_Trial_tryLine 174 = .ok (.aload_n 0, 1) := by decide +kernel
theorem d_Trial_tryLine_175 : decode b_Trial_tryLine 175 = .ok (.iload_n 3, 1) := by decide +kernel
theorem d_Trial_tryLine_176 : decode b_Trial_tryLine 176 = .ok (.invokevirtual 121, 3) := by decide +kernel
theorem d_Trial_tryLine_179 : decode b_Trial_tryLine 179 = .ok (.iinc 2 1, 3) := by decide +kernel
theorem d_Trial_tryLine_182 : decode b_Trial_tryLine 182 = .ok (.goto (-175), 3) := by decide +kernel
theorem d_Trial_tryLine_185 : decode b_Trial_tryLine 185 = .ok (.aload_n 0, 1) := by decide +kernel
theorem d_Trial_tryLine_186 : decode b_Trial_tryLine 186 = .ok (.getfield 76, 3) := by decide +kernel
theorem d_Trial_tryLine_189 : decode b_Trial_tryLine 189 = .ok (.ifCond .ne 7, 3) := by decide +kernel
theorem d_Trial_tryLine_192 : decode b_Trial_tryLine 192 = .ok (.aload_n 0, 1) := by decide +kernel
theorem d_Trial_tryLine_193 : decode b_Trial_tryLine 193 = .ok (.invokevirtual 124, 3) := by decide +kernel
theorem d_Trial_tryLine_196 : decode b_Trial_tryLine 196 = .ok (.return_, 1) := by decide +kernel
theorem d_Lines_actionOf_0 : decode b_Lines_actionOf 0 = .ok (.aload_n 0, 1) := by decide +kernel
theorem d_Lines_actionOf_1 : decode b_Lines_actionOf 1 = .ok (.iload_n 1, 1) := by decide +kernel
theorem d_Lines_actionOf_2 : decode b_Lines_actionOf 2 = .ok (.invokevirtual 39, 3) := by decide +kernel
theorem d_Lines_actionOf_5 : decode b_Lines_actionOf 5 = .ok (.ifCond .eq 12, 3) := by decide +kernel
theorem d_Lines_actionOf_8 : decode b_Lines_actionOf 8 = .ok (.aload_n 0, 1) := by decide +kernel
theorem d_Lines_actionOf_9 : decode b_Lines_actionOf 9 = .ok (.getfield 15, 3) := by decide +kernel
theorem d_Lines_actionOf_12 : decode b_Lines_actionOf 12 = .ok (.iload_n 1, 1) := by decide +kernel
theorem d_Lines_actionOf_13 : decode b_Lines_actionOf 13 = .ok (.iaload, 1) := by decide +kernel
theorem d_Lines_actionOf_14 : decode b_Lines_actionOf 14 = .ok (.goto 4, 3) := by decide +kernel
theorem d_Lines_actionOf_17 : decode b_Lines_actionOf 17 = .ok (.iconst (-1), 1) := by decide +kernel
theorem d_Lines_actionOf_18 : decode b_Lines_actionOf 18 = .ok (.ireturn, 1) := by decide +kernel
theorem d_Report_note_0 : decode b_Report_note 0 = .ok (.aload_n 0, 1) := by decide +kernel
theorem d_Report_note_1 : decode b_Report_note 1 = .ok (.getfield 14, 3) := by decide +kernel
theorem d_Report_note_4 : decode b_Report_note 4 = .ok (.aload_n 1, 1) := by decide +kernel
theorem d_Report_note_5 : decode b_Report_note 5 = .ok (.getfield 45, 3) := by decide +kernel
theorem d_Report_note_8 : decode b_Report_note 8 = .ok (.invokevirtual 48, 3) := by decide +kernel
theorem d_Report_note_11 : decode b_Report_note 11 = .ok (.aload_n 0, 1) := by decide +kernel
theorem d_Report_note_12 : decode b_Report_note 12 = .ok (.getfield 20, 3) := by decide +kernel
theorem d_Report_note_15 : decode b_Report_note 15 = .ok (.aload_n 1, 1) := by decide +kernel
theorem d_Report_note_16 : decode b_Report_note 16 = .ok (.getfield 51, 3) := by decide +kernel
theorem d_Report_note_19 : decode b_Report_note 19 = .ok (.invokevirtual 48, 3) := by decide +kernel
theorem d_Report_note_22 : decode b_Report_note 22 = .ok (.aload_n 0, 1) := by decide +kernel
theorem d_Report_note_23 : decode b_Report_note 23 = .ok (.getfield 23, 3) := by decide +kernel
theorem d_Report_note_26 : decode b_Report_note 26 = .ok (.aload_n 1, 1) := by decide +kernel
theorem d_Report_note_27 : decode b_Report_note 27 = .ok (.getfield 52, 3) := by decide +kernel
theorem d_Report_note_30 : decode b_Report_note 30 = .ok (.invokevirtual 48, 3) := by decide +kernel
theorem d_Report_note_33 : decode b_Report_note 33 = .ok (.aload_n 1, 1) := by decide +kernel
theorem d_Report_note_34 : decode b_Report_note 34 = .ok (.getfield 51, 3) := by decide +kernel
theorem d_Report_note_37 : decode b_Report_note 37 = .ok (.ifCond .ne 21, 3) := by decide +kernel
theorem d_Report_note_40 : decode b_Report_note 40 = .ok (.aload_n 0, 1) := by decide +kernel
theorem d_Report_note_41 : decode b_Report_note 41 = .ok (.iload_n 2, 1) := by decide +kernel
theorem d_Report_note_42 : decode b_Report_note 42 = .ok (.putfield 29, 3) := by decide +kernel
theorem d_Report_note_45 : decode b_Report_note 45 = .ok (.aload_n 0, 1) := by decide +kernel
theorem d_Report_note_46 : decode b_Report_note 46 = .ok (.iconst 0, 1) := by decide +kernel
theorem d_Report_note_47 : decode b_Report_note 47 = .ok (.iconst (-1), 1) := by decide +kernel
theorem d_Report_note_48 : decode b_Report_note 48 = .ok (.aload_n 1, 1) := by decide +kernel
theorem d_Report_note_49 : decode b_Report_note 49 = .ok (.getfield 45, 3) := by decide +kernel
theorem d_Report_note_52 : decode b_Report_note 52 = .ok (.invokevirtual 53, 3) := by decide +kernel
theorem d_Report_note_55 : decode b_Report_note 55 = .ok (.goto 52, 3) := by decide +kernel
theorem d_Report_note_58 : decode b_Report_note 58 = .ok (.aload_n 1, 1) := by decide +kernel
theorem d_Report_note_59 : decode b_Report_note 59 = .ok (.getfield 51, 3) := by decide +kernel
theorem d_Report_note_62 : decode b_Report_note 62 = .ok (.aload_n 0, 1) := by decide +kernel
theorem d_Report_note_63 : decode b_Report_note 63 = .ok (.getfield 42, 3) := by decide +kernel
theorem d_Report_note_66 : decode b_Report_note 66 = .ok (.if_icmp .le 41, 3) := by decide +kernel
theorem d_Report_note_69 : decode b_Report_note 69 = .ok (.aload_n 0, 1) := by decide +kernel
theorem d_Report_note_70 : decode b_Report_note 70 = .ok (.aload_n 1, 1) := by decide +kernel
theorem d_Report_note_71 : decode b_Report_note 71 = .ok (.getfield 51, 3) := by decide +kernel
theorem d_Report_note_74 : decode b_Report_note 74 = .ok (.aload_n 1, 1) := by decide +kernel
theorem d_Report_note_75 : decode b_Report_note 75 = .ok (.getfield 52, 3) := by decide +kernel
theorem d_Report_note_78 : decode b_Report_note 78 = .ok (.aload_n 1, 1) := by decide +kernel
theorem d_Report_note_79 : decode b_Report_note 79 = .ok (.getfield 45, 3) := by decide +kernel
theorem d_Report_note_82 : decode b_Report_note 82 = .ok (.invokevirtual 53, 3) := by decide +kernel
theorem d_Report_note_85 : decode b_Report_note 85 = .ok (.aload_n 0, 1) := by decide +kernel
theorem d_Report_note_86 : decode b_Report_note 86 = .ok (.getfield 26, 3) := by decide +kernel
theorem d_Report_note_89 : decode b_Report_note 89 = .ok (.aload_n 1, 1) := by decide +kernel
theorem d_Report_note_90 : decode b_Report_note 90 = .ok (.getfield 57, 3) := by decide +kernel
theorem d_Report_note_93 : decode b_Report_note 93 = .ok (.invokevirtual 58, 3) := by decide +kernel
theorem d_Report_note_96 : decode b_Report_note 96 = .ok (.aload_n 0, 1) := by decide +kernel
theorem d_Report_note_97 : decode b_Report_note 97 = .ok (.aload_n 1, 1) := by decide +kernel
theorem d_Report_note_98 : decode b_Report_note 98 = .ok (.getfield 62, 3) := by decide +kernel
theorem d_Report_note_101 : decode b_Report_note 101 = .ok (.getfield 66, 3) := by decide +kernel
theorem d_Report_note_104 : decode b_Report_note 104 = .ok (.putfield 71, 3) := by decide +kernel
theorem d_Report_note_107 : decode b_Report_note 107 = .ok (.return_, 1) := by decide +kernel
theorem d_G_tryCommand_0 : decode b_G_tryCommand 0 = .ok (.aload_n 0, 1) := by decide +kernel
theorem d_G_tryCommand_1 : decode b_G_tryCommand 1 = .ok (.getfield 76, 3) := by decide +kernel
theorem d_G_tryCommand_4 : decode b_G_tryCommand 4 = .ok (.invokevirtual 182, 3) := by decide +kernel
theorem d_G_tryCommand_7 : decode b_G_tryCommand 7 = .ok (.aload_n 0, 1) := by decide +kernel
theorem d_G_tryCommand_8 : decode b_G_tryCommand 8 = .ok (.getfield 19, 3) := by decide +kernel
theorem d_G_tryCommand_11 : decode b_G_tryCommand 11 = .ok (.aload_n 0, 1) := by decide +kernel
theorem d_G_tryCommand_12 : decode b_G_tryCommand 12 = .ok (.getfield 46, 3) := by decide +kernel
theorem d_G_tryCommand_15 : decode b_G_tryCommand 15 = .ok (.iconst 0, 1) := by decide +kernel
theorem d_G_tryCommand_16 : decode b_G_tryCommand 16 = .ok (.invokevirtual 234, 3) := by decide +kernel
theorem d_G_tryCommand_19 : decode b_G_tryCommand 19 = .ok (.invokevirtual 192, 3) := by decide +kernel
theorem d_G_tryCommand_22 : decode b_G_tryCommand 22 = .ok (.istore_n 1, 1) := by decide +kernel
theorem d_G_tryCommand_23 : decode b_G_tryCommand 23 = .ok (.iconst 0, 1) := by decide +kernel
theorem d_G_tryCommand_24 : decode b_G_tryCommand 24 = .ok (.istore_n 2, 1) := by decide +kernel
theorem d_G_tryCommand_25 : decode b_G_tryCommand 25 = .ok (.iload_n 2, 1) := by decide +kernel
theorem d_G_tryCommand_26 : decode b_G_tryCommand 26 = .ok (.aload_n 0, 1) := by decide +kernel
theorem d_G_tryCommand_27 : decode b_G_tryCommand 27 = .ok (.getfield 26, 3) := by decide +kernel
theorem d_G_tryCommand_30 : decode b_G_tryCommand 30 = .ok (.invokevirtual 247, 3) := by decide +kernel
theorem d_G_tryCommand_33 : decode b_G_tryCommand 33 = .ok (.if_icmp .ge 64, 3) := by decide +kernel
theorem d_G_tryCommand_36 : decode b_G_tryCommand 36 = .ok (.aload_n 0, 1) := by decide +kernel
theorem d_G_tryCommand_37 : decode b_G_tryCommand 37 = .ok (.getfield 76, 3) := by decide +kernel
theorem d_G_tryCommand_40 : decode b_G_tryCommand 40 = .ok (.getfield 207, 3) := by decide +kernel
theorem d_G_tryCommand_43 : decode b_G_tryCommand 43 = .ok (.iconst (-1), 1) := by decide +kernel
theorem d_G_tryCommand_44 : decode b_G_tryCommand 44 = .ok (.if_icmp .ne 53, 3) := by decide +kernel
theorem d_G_tryCommand_47 : decode b_G_tryCommand 47 = .ok (.iload_n 1, 1) := by decide +kernel
theorem d_G_tryCommand_48 : decode b_G_tryCommand 48 = .ok (.iconst (-1), 1) := by decide +kernel
theorem d_G_tryCommand_49 : decode b_G_tryCommand 49 = .ok (.if_icmp .eq 42, 3) := by decide +kernel
theorem d_G_tryCommand_52 : decode b_G_tryCommand 52 = .ok (.aload_n 0, 1) := by decide +kernel
theorem d_G_tryCommand_53 : decode b_G_tryCommand 53 = .ok (.getfield 26, 3) := by decide +kernel
theorem d_G_tryCommand_56 : decode b_G_tryCommand 56 = .ok (.iload_n 2, 1) := by decide +kernel
theorem d_G_tryCommand_57 : decode b_G_tryCommand 57 = .ok (.invokevirtual 298, 3) := by decide +kernel
theorem d_G_tryCommand_60 : decode b_G_tryCommand 60 = .ok (.iload_n 1, 1) := by decide +kernel
theorem d_G_tryCommand_61 : decode b_G_tryCommand 61 = .ok (.if_icmp .ne 30, 3) := by decide +kernel
theorem d_G_tryCommand_64 : decode b_G_tryCommand 64 = .ok (.aload_n 0, 1) := by decide +kernel
theorem d_G_tryCommand_65 : decode b_G_tryCommand 65 = .ok (.getfield 69, 3) := by decide +kernel
theorem d_G_tryCommand_68 : decode b_G_tryCommand 68 = .ok (.iload_n 2, 1) := by decide +kernel
theorem d_G_tryCommand_69 : decode b_G_tryCommand 69 = .ok (.invokevirtual 301, 3) := by decide +kernel
theorem d_G_tryCommand_72 : decode b_G_tryCommand 72 = .ok (.aload_n 0, 1) := by decide +kernel
theorem d_G_tryCommand_73 : decode b_G_tryCommand 73 = .ok (.getfield 76, 3) := by decide +kernel
theorem d_G_tryCommand_76 : decode b_G_tryCommand 76 = .ok (.aload_n 0, 1) := by decide +kernel
theorem d_G_tryCommand_77 : decode b_G_tryCommand 77 = .ok (.getfield 69, 3) := by decide +kernel
theorem d_G_tryCommand_80 : decode b_G_tryCommand 80 = .ok (.aload_n 0, 1) := by decide +kernel
theorem d_G_tryCommand_81 : decode b_G_tryCommand 81 = .ok (.getfield 26, 3) := by decide +kernel
theorem d_G_tryCommand_84 : decode b_G_tryCommand 84 = .ok (.iload_n 2, 1) := by decide +kernel
theorem d_G_tryCommand_85 : decode b_G_tryCommand 85 = .ok (.invokevirtual 304, 3) := by decide +kernel
theorem d_G_tryCommand_88 : decode b_G_tryCommand 88 = .ok (.invokevirtual 307, 3) := by decide +kernel
theorem d_G_tryCommand_91 : decode b_G_tryCommand 91 = .ok (.iinc 2 1, 3) := by decide +kernel
theorem d_G_tryCommand_94 : decode b_G_tryCommand 94 = .ok (.goto (-69), 3) := by decide +kernel
theorem d_G_tryCommand_97 : decode b_G_tryCommand 97 = .ok (.aload_n 0, 1) := by decide +kernel
theorem d_G_tryCommand_98 : decode b_G_tryCommand 98 = .ok (.getfield 76, 3) := by decide +kernel
theorem d_G_tryCommand_101 : decode b_G_tryCommand 101 = .ok (.getfield 243, 3) := by decide +kernel
theorem d_G_tryCommand_104 : decode b_G_tryCommand 104 = .ok (.invokevirtual 162, 3) := by decide +kernel
theorem d_G_tryCommand_107 : decode b_G_tryCommand 107 = .ok (.ifCond .ne 13, 3) := by decide +kernel
theorem d_G_tryCommand_110 : decode b_G_tryCommand 110 = .ok (.aload_n 0, 1) := by decide +kernel
theorem d_G_tryCommand_111 : decode b_G_tryCommand 111 = .ok (.getfield 76, 3) := by decide +kernel
theorem d_G_tryCommand_114 : decode b_G_tryCommand 114 = .ok (.iconst 2, 1) := by decide +kernel
theorem d_G_tryCommand_115 : decode b_G_tryCommand 115 = .ok (.iconst 0, 1) := by decide +kernel
theorem d_G_tryCommand_116 : decode b_G_tryCommand 116 = .ok (.iconst (-1), 1) := by decide +kernel
theorem d_G_tryCommand_117 : decode b_G_tryCommand 117 = .ok (.invokevirtual 185, 3) := by decide +kernel
theorem d_G_tryCommand_120 : decode b_G_tryCommand 120 = .ok (.aload_n 0, 1) := by decide +kernel
theorem d_G_tryCommand_121 : decode b_G_tryCommand 121 = .ok (.getfield 76, 3) := by decide +kernel
theorem d_G_tryCommand_124 : decode b_G_tryCommand 124 = .ok (.getfield 207, 3) := by decide +kernel
theorem d_G_tryCommand_127 : decode b_G_tryCommand 127 = .ok (.iconst (-1), 1) := by decide +kernel
theorem d_G_tryCommand_128 : decode b_G_tryCommand 128 = .ok (.if_icmp .eq 30, 3) := by decide +kernel
theorem d_G_tryCommand_131 : decode b_G_tryCommand 131 = .ok (.aload_n 0, 1) := by decide +kernel
theorem d_G_tryCommand_132 : decode b_G_tryCommand 132 = .ok (.getfield 52, 3) := by decide +kernel
theorem d_G_tryCommand_135 : decode b_G_tryCommand 135 = .ok (.aload_n 0, 1) := by decide +kernel
theorem d_G_tryCommand_136 : decode b_G_tryCommand 136 = .ok (.getfield 46, 3) := by decide +kernel
theorem d_G_tryCommand_139 : decode b_G_tryCommand 139 = .ok (.invokevirtual 288, 3) := by decide +kernel
theorem d_G_tryCommand_142 : decode b_G_tryCommand 142 = .ok (.aload_n 0, 1) := by decide +kernel
theorem d_G_tryCommand_143 : decode b_G_tryCommand 143 = .ok (.aload_n 0, 1) := by decide +kernel
theorem d_G_tryCommand_144 : decode b_G_tryCommand 144 = .ok (.getfield 80, 3) := by decide +kernel
theorem d_G_tryCommand_147 : decode b_G_tryCommand 147 = .ok (.putfield 84, 3) := by decide +kernel
theorem d_G_tryCommand_150 : decode b_G_tryCommand 150 = .ok (.aload_n 0, 1) := by decide +kernel
theorem d_G_tryCommand_151 : decode b_G_tryCommand 151 = .ok (.getfield 76, 3) := by decide +kernel
theorem d_G_tryCommand_154 : decode b_G_tryCommand 154 = .ok (.getfield 207, 3) := by decide +kernel
theorem d_G_tryCommand_157 : decode b_G_tryCommand 157 = .ok (.ireturn, 1) := by decide +kernel
theorem d_G_tryCommand_158 : decode b_G_tryCommand 158 = .ok (.aload_n 0, 1) := by decide +kernel
theorem d_G_tryCommand_159 : decode b_G_tryCommand 159 = .ok (.getfield 76, 3) := by decide +kernel
theorem d_G_tryCommand_162 : decode b_G_tryCommand 162 = .ok (.invokevirtual 189, 3) := by decide +kernel
theorem d_G_tryCommand_165 : decode b_G_tryCommand 165 = .ok (.ifCond .eq 5, 3) := by decide +kernel
theorem d_G_tryCommand_168 : decode b_G_tryCommand 168 = .ok (.iconst 0, 1) := by decide +kernel
theorem d_G_tryCommand_169 : decode b_G_tryCommand 169 = .ok (.ireturn, 1) := by decide +kernel
theorem d_G_tryCommand_170 : decode b_G_tryCommand 170 = .ok (.aload_n 0, 1) := by decide +kernel
theorem d_G_tryCommand_171 : decode b_G_tryCommand 171 = .ok (.getfield 42, 3) := by decide +kernel
theorem d_G_tryCommand_174 : decode b_G_tryCommand 174 = .ok (.invokevirtual 167, 3) := by decide +kernel
theorem d_G_tryCommand_177 : decode b_G_tryCommand 177 = .ok (.aload_n 0, 1) := by decide +kernel
theorem d_G_tryCommand_178 : decode b_G_tryCommand 178 = .ok (.getfield 76, 3) := by decide +kernel
theorem d_G_tryCommand_181 : decode b_G_tryCommand 181 = .ok (.getfield 197, 3) := by decide +kernel
theorem d_G_tryCommand_184 : decode b_G_tryCommand 184 = .ok (.ineg, 1) := by decide +kernel
theorem d_G_tryCommand_185 : decode b_G_tryCommand 185 = .ok (.ireturn, 1) := by decide +kernel
theorem d_G_parse_0 : decode b_G_parse 0 = .ok (.aload_n 0, 1) := by decide +kernel
theorem d_G_parse_1 : decode b_G_parse 1 = .ok (.invokevirtual 170, 3) := by decide +kernel
theorem d_G_parse_4 : decode b_G_parse 4 = .ok (.istore_n 1, 1) := by decide +kernel
theorem d_G_parse_5 : decode b_G_parse 5 = .ok (.aload_n 0, 1) := by decide +kernel
theorem d_G_parse_6 : decode b_G_parse 6 = .ok (.invokevirtual 173, 3) := by decide +kernel
theorem d_G_parse_9 : decode b_G_parse 9 = .ok (.aload_n 0, 1) := by decide +kernel
theorem d_G_parse_10 : decode b_G_parse 10 = .ok (.iload_n 1, 1) := by decide +kernel
theorem d_G_parse_11 : decode b_G_parse 11 = .ok (.invokevirtual 176, 3) := by decide +kernel
theorem d_G_parse_14 : decode b_G_parse 14 = .ok (.istore_n 2, 1) := by decide +kernel
theorem d_G_parse_15 : decode b_G_parse 15 = .ok (.iload_n 2, 1) := by decide +kernel
theorem d_G_parse_16 : decode b_G_parse 16 = .ok (.ifCond .ne 8, 3) := by decide +kernel
theorem d_G_parse_19 : decode b_G_parse 19 = .ok (.aload_n 0, 1) := by decide +kernel
theorem d_G_parse_20 : decode b_G_parse 20 = .ok (.invokevirtual 179, 3) := by decide +kernel
theorem d_G_parse_23 : decode b_G_parse 23 = .ok (.ireturn, 1) := by decide +kernel
theorem d_G_parse_24 : decode b_G_parse 24 = .ok (.aload_n 0, 1) := by decide +kernel
theorem d_G_parse_25 : decode b_G_parse 25 = .ok (.getfield 76, 3) := by decide +kernel
theorem d_G_parse_28 : decode b_G_parse 28 = .ok (.invokevirtual 182, 3) := by decide +kernel
theorem d_G_parse_31 : decode b_G_parse 31 = .ok (.aload_n 0, 1) := by decide +kernel
theorem d_G_parse_32 : decode b_G_parse 32 = .ok (.getfield 76, 3) := by decide +kernel
theorem d_G_parse_35 : decode b_G_parse 35 = .ok (.iload_n 2, 1) := by decide +kernel
theorem d_G_parse_36 : decode b_G_parse 36 = .ok (.iconst (-1), 1) := by decide +kernel
theorem d_G_parse_37 : decode b_G_parse 37 = .ok (.iconst (-1), 1) := by decide +kernel
theorem d_G_parse_38 : decode b_G_parse 38 = .ok (.invokevirtual 185, 3) := by decide +kernel
theorem d_G_parse_41 : decode b_G_parse 41 = .ok (.aload_n 0, 1) := by decide +kernel
theorem d_G_parse_42 : decode b_G_parse 42 = .ok (.getfield 42, 3) := by decide +kernel
theorem d_G_parse_45 : decode b_G_parse 45 = .ok (.invokevirtual 167, 3) := by decide +kernel
theorem d_G_parse_48 : decode b_G_parse 48 = .ok (.iload_n 2, 1) := by decide +kernel
theorem d_G_parse_49 : decode b_G_parse 49 = .ok (.ineg, 1) := by decide +kernel
theorem d_G_parse_50 : decode b_G_parse 50 = .ok (.ireturn, 1) := by decide +kernel
theorem d_Row_insert_0 : decode b_Row_insert 0 = .ok (.iload_n 1, 1) := by decide +kernel
theorem d_Row_insert_1 : decode b_Row_insert 1 = .ok (.ifCond .lt 23, 3) := by decide +kernel
theorem d_Row_insert_4 : decode b_Row_insert 4 = .ok (.iload_n 1, 1) := by decide +kernel
theorem d_Row_insert_5 : decode b_Row_insert 5 = .ok (.aload_n 0, 1) := by decide +kernel
theorem d_Row_insert_6 : decode b_Row_insert 6 = .ok (.getfield 21, 3) := by decide +kernel
theorem d_Row_insert_9 : decode b_Row_insert 9 = .ok (.if_icmp .gt 15, 3) := by decide +kernel
theorem d_Row_insert_12 : decode b_Row_insert 12 = .ok (.aload_n 0, 1) := by decide +kernel
theorem d_Row_insert_13 : decode b_Row_insert 13 = .ok (.getfield 21, 3) := by decide +kernel
theorem d_Row_insert_16 : decode b_Row_insert 16 = .ok (.aload_n 0, 1) := by decide +kernel
theorem d_Row_insert_17 : decode b_Row_insert 17 = .ok (.getfield 15, 3) := by decide +kernel
theorem d_Row_insert_20 : decode b_Row_insert 20 = .ok (.arraylength, 1) := by decide +kernel
theorem d_Row_insert_21 : decode b_Row_insert 21 = .ok (.if_icmp .lt 4, 3) := by decide +kernel
theorem d_Row_insert_24 : decode b_Row_insert 24 = .ok (.return_, 1) := by decide +kernel
theorem d_Row_insert_25 : decode b_Row_insert 25 = .ok (.aload_n 0, 1) := by decide +kernel
theorem d_Row_insert_26 : decode b_Row_insert 26 = .ok (.getfield 21, 3) := by decide +kernel
theorem d_Row_insert_29 : decode b_Row_insert 29 = .ok (.istore_n 3, 1) := by decide +kernel
theorem d_Row_insert_30 : decode b_Row_insert 30 = .ok (.iload_n 3, 1) := by decide +kernel
theorem d_Row_insert_31 : decode b_Row_insert 31 = .ok (.iload_n 1, 1) := by decide +kernel
theorem d_Row_insert_32 : decode b_Row_insert 32 = .ok (.if_icmp .le 23, 3) := by decide +kernel
theorem d_Row_insert_35 : decode b_Row_insert 35 = .ok (.aload_n 0, 1) := by decide +kernel
theorem d_Row_insert_36 : decode b_Row_insert 36 = .ok (.getfield 15, 3) := by decide +kernel
theorem d_Row_insert_39 : decode b_Row_insert 39 = .ok (.iload_n 3, 1) := by decide +kernel
theorem d_Row_insert_40 : decode b_Row_insert 40 = .ok (.aload_n 0, 1) := by decide +kernel
theorem d_Row_insert_41 : decode b_Row_insert 41 = .ok (.getfield 15, 3) := by decide +kernel
theorem d_Row_insert_44 : decode b_Row_insert 44 = .ok (.iload_n 3, 1) := by decide +kernel
theorem d_Row_insert_45 : decode b_Row_insert 45 = .ok (.iconst 1, 1) := by decide +kernel
theorem d_Row_insert_46 : decode b_Row_insert 46 = .ok (.isub, 1) := by decide +kernel
theorem d_Row_insert_47 : decode b_Row_insert 47 = .ok (.iaload, 1) := by decide +kernel
theorem d_Row_insert_48 : decode b_Row_insert 48 = .ok (.iastore, 1) := by decide +kernel
theorem d_Row_insert_49 : decode b_Row_insert 49 = .ok (.iinc 3 (-1), 3) := by decide +kernel
theorem d_Row_insert_52 : decode b_Row_insert 52 = .ok (.goto (-22), 3) := by decide +kernel
theorem d_Row_insert_55 : decode b_Row_insert 55 = .ok (.aload_n 0, 1) := by decide +kernel
theorem d_Row_insert_56 : decode b_Row_insert 56 = .ok (.getfield 15, 3) := by decide +kernel
theorem d_Row_insert_59 : decode b_Row_insert 59 = .ok (.iload_n 1, 1) := by decide +kernel
theorem d_Row_insert_60 : decode b_Row_insert 60 = .ok (.iload_n 2, 1) := by decide +kernel
theorem d_Row_insert_61 : decode b_Row_insert 61 = .ok (.iastore, 1) := by decide +kernel
theorem d_Row_insert_62 : decode b_Row_insert 62 = .ok (.aload_n 0, 1) := by decide +kernel
theorem d_Row_insert_63 : decode b_Row_insert 63 = .ok (.dup, 1) := by decide +kernel
theorem d_Row_insert_64 : decode b_Row_insert 64 = .ok (.getfield 21, 3) := by decide +kernel
theorem d_Row_insert_67 : decode b_Row_insert 67 = .ok (.iconst 1, 1) := by decide +kernel
theorem d_Row_insert_68 : decode b_Row_insert 68 = .ok (.iadd, 1) := by decide +kernel
theorem d_Row_insert_69 : decode b_Row_insert 69 = .ok (.putfield 21, 3) := by decide +kernel
theorem d_Row_insert_72 : decode b_Row_insert 72 = .ok (.return_, 1) := by decide +kernel
theorem d_G_putAnswer_0 : decode b_G_putAnswer 0 = .ok (.aload_n 0, 1) := by decide +kernel
theorem d_G_putAnswer_1 : decode b_G_putAnswer 1 = .ok (.getfield 76, 3) := by decide +kernel
theorem d_G_putAnswer_4 : decode b_G_putAnswer 4 = .ok (.getfield 197, 3) := by decide +kernel
theorem d_G_putAnswer_7 : decode b_G_putAnswer 7 = .ok (.bipush 15, 2) := by decide +kernel
theorem d_G_putAnswer_9 : decode b_G_putAnswer 9 = .ok (.if_icmp .ne 19, 3) := by decide +kernel
theorem d_G_putAnswer_12 : decode b_G_putAnswer 12 = .ok (.aload_n 0, 1) := by decide +kernel
theorem d_G_putAnswer_13 : decode b_G_putAnswer 13 = .ok (.getfield 46, 3) := by decide +kernel
theorem d_G_putAnswer_16 : decode b_G_putAnswer 16 = .ok (.aload_n 0, 1) := by decide +kernel
theorem d_G_putAnswer_17 : decode b_G_putAnswer 17 = .ok (.getfield 76, 3) := by decide +kernel
theorem d_G_putAnswer_20 : decode b_G_putAnswer 20 = .ok (.getfield 292, 3) := by decide +kernel
theorem d_G_putAnswer_23 : decode b_G_putAnswer 23 = .ok (.iload_n 1, 1) := by decide +kernel
theorem d_G_putAnswer_24 : decode b_G_putAnswer 24 = .ok (.invokevirtual 295, 3) := by decide +kernel
theorem d_G_putAnswer_27 : decode b_G_putAnswer 27 = .ok (.return_, 1) := by decide +kernel
theorem d_G_putAnswer_28 : decode b_G_putAnswer 28 = .ok (.iconst 1, 1) := by decide +kernel
theorem d_G_putAnswer_29 : decode b_G_putAnswer 29 = .ok (.istore_n 3, 1) := by decide +kernel
theorem d_G_putAnswer_30 : decode b_G_putAnswer 30 = .ok (.iload_n 3, 1) := by decide +kernel
theorem d_G_putAnswer_31 : decode b_G_putAnswer 31 = .ok (.iload_n 2, 1) := by decide +kernel
theorem d_G_putAnswer_32 : decode b_G_putAnswer 32 = .ok (.if_icmp .gt 27, 3) := by decide +kernel
theorem d_G_putAnswer_35 : decode b_G_putAnswer 35 = .ok (.aload_n 0, 1) := by decide +kernel
theorem d_G_putAnswer_36 : decode b_G_putAnswer 36 = .ok (.getfield 46, 3) := by decide +kernel
theorem d_G_putAnswer_39 : decode b_G_putAnswer 39 = .ok (.aload_n 0, 1) := by decide +kernel
theorem d_G_putAnswer_40 : decode b_G_putAnswer 40 = .ok (.getfield 76, 3) := by decide +kernel
theorem d_G_putAnswer_43 : decode b_G_putAnswer 43 = .ok (.getfield 200, 3) := by decide +kernel
theorem d_G_putAnswer_46 : decode b_G_putAnswer 46 = .ok (.iload_n 3, 1) := by decide +kernel
theorem d_G_putAnswer_47 : decode b_G_putAnswer 47 = .ok (.invokevirtual 234, 3) := by decide +kernel
theorem d_G_putAnswer_50 : decode b_G_putAnswer 50 = .ok (.invokevirtual 165, 3) := by decide +kernel
theorem d_G_putAnswer_53 : decode b_G_putAnswer 53 = .ok (.iinc 3 1, 3) := by decide +kernel
theorem d_G_putAnswer_56 : decode b_G_putAnswer 56 = .ok (.goto (-26), 3) := by decide +kernel
theorem d_G_putAnswer_59 : decode b_G_putAnswer 59 = .ok (.aload_n 0, 1) := by decide +kernel
theorem d_G_putAnswer_60 : decode b_G_putAnswer 60 = .ok (.getfield 46, 3) := by decide +kernel
theorem d_G_putAnswer_63 : decode b_G_putAnswer 63 = .ok (.iload_n 1, 1) := by decide +kernel
theorem d_G_putAnswer_64 : decode b_G_putAnswer 64 = .ok (.invokevirtual 165, 3) := by decide +kernel
theorem d_G_putAnswer_67 : decode b_G_putAnswer 67 = .ok (.return_, 1) := by decide +kernel
theorem d_G_beginAnew_0 : decode b_G_beginAnew 0 = .ok (.aload_n 0, 1) := by decide +kernel
theorem d_G_beginAnew_1 : decode b_G_beginAnew 1 = .ok (.getfield 42, 3) := by decide +kernel
theorem d_G_beginAnew_4 : decode b_G_beginAnew 4 = .ok (.invokevirtual 167, 3) := by decide +kernel
theorem d_G_beginAnew_7 : decode b_G_beginAnew 7 = .ok (.aload_n 0, 1) := by decide +kernel
theorem d_G_beginAnew_8 : decode b_G_beginAnew 8 = .ok (.getfield 46, 3) := by decide +kernel
theorem d_G_beginAnew_11 : decode b_G_beginAnew 11 = .ok (.invokevirtual 167, 3) := by decide +kernel
theorem d_G_beginAnew_14 : decode b_G_beginAnew 14 = .ok (.aload_n 0, 1) := by decide +kernel
theorem d_G_beginAnew_15 : decode b_G_beginAnew 15 = .ok (.getfield 46, 3) := by decide +kernel
theorem d_G_beginAnew_18 : decode b_G_beginAnew 18 = .ok (.iload_n 1, 1) := by decide +kernel
theorem d_G_beginAnew_19 : decode b_G_beginAnew 19 = .ok (.invokevirtual 165, 3) := by decide +kernel
theorem d_G_beginAnew_22 : decode b_G_beginAnew 22 = .ok (.aload_n 0, 1) := by decide +kernel
theorem d_G_beginAnew_23 : decode b_G_beginAnew 23 = .ok (.iconst (-1), 1) := by decide +kernel
theorem d_G_beginAnew_24 : decode b_G_beginAnew 24 = .ok (.putfield 80, 3) := by decide +kernel
theorem d_G_beginAnew_27 : decode b_G_beginAnew 27 = .ok (.return_, 1) := by decide +kernel
theorem d_G_answer_0 : decode b_G_answer 0 = .ok (.iload_n 1, 1) := by decide +kernel
theorem d_G_answer_1 : decode b_G_answer 1 = .ok (.invokestatic 159, 3) := by decide +kernel
theorem d_G_answer_4 : decode b_G_answer 4 = .ok (.ifCond .ne 6, 3) := by decide +kernel
theorem d_G_answer_7 : decode b_G_answer 7 = .ok (.bipush (-102), 2) := by decide +kernel
theorem d_G_answer_9 : decode b_G_answer 9 = .ok (.ireturn, 1) := by decide +kernel
theorem d_G_answer_10 : decode b_G_answer 10 = .ok (.aload_n 0, 1) := by decide +kernel
theorem d_G_answer_11 : decode b_G_answer 11 = .ok (.getfield 76, 3) := by decide +kernel
theorem d_G_answer_14 : decode b_G_answer 14 = .ok (.invokevirtual 189, 3) := by decide +kernel
theorem d_G_answer_17 : decode b_G_answer 17 = .ok (.ifCond .ne 6, 3) := by decide +kernel
theorem d_G_answer_20 : decode b_G_answer 20 = .ok (.bipush (-103), 2) := by decide +kernel
theorem d_G_answer_22 : decode b_G_answer 22 = .ok (.ireturn, 1) := by decide +kernel
theorem d_G_answer_23 : decode b_G_answer 23 = .ok (.aload_n 0, 1) := by decide +kernel
theorem d_G_answer_24 : decode b_G_answer 24 = .ok (.getfield 19, 3) := by decide +kernel
theorem d_G_answer_27 : decode b_G_answer 27 = .ok (.iload_n 1, 1) := by decide +kernel
theorem d_G_answer_28 : decode b_G_answer 28 = .ok (.invokevirtual 192, 3) := by decide +kernel
theorem d_G_answer_31 : decode b_G_answer 31 = .ok (.iconst (-1), 1) := by decide +kernel
theorem d_G_answer_32 : decode b_G_answer 32 = .ok (.if_icmp .eq 13, 3) := by decide +kernel
theorem d_G_answer_35 : decode b_G_answer 35 = .ok (.aload_n 0, 1) := by decide +kernel
theorem d_G_answer_36 : decode b_G_answer 36 = .ok (.iload_n 1, 1) := by decide +kernel
theorem d_G_answer_37 : decode b_G_answer 37 = .ok (.invokevirtual 194, 3) := by decide +kernel
theorem d_G_answer_40 : decode b_G_answer 40 = .ok (.aload_n 0, 1) := by decide +kernel
theorem d_G_answer_41 : decode b_G_answer 41 = .ok (.invokevirtual 179, 3) := by decide +kernel
theorem d_G_answer_44 : decode b_G_answer 44 = .ok (.ireturn, 1) := by decide +kernel
theorem d_G_answer_45 : decode b_G_answer 45 = .ok (.aload_n 0, 1) := by decide +kernel
theorem d_G_answer_46 : decode b_G_answer 46 = .ok (.getfield 76, 3) := by decide +kernel
theorem d_G_answer_49 : decode b_G_answer 49 = .ok (.getfield 197, 3) := by decide +kernel
theorem d_G_answer_52 : decode b_G_answer 52 = .ok (.bipush 16, 2) := by decide +kernel
theorem d_G_answer_54 : decode b_G_answer 54 = .ok (.if_icmp .ne 18, 3) := by decide +kernel
theorem d_G_answer_57 : decode b_G_answer 57 = .ok (.aload_n 0, 1) := by decide +kernel
theorem d_G_answer_58 : decode b_G_answer 58 = .ok (.getfield 76, 3) := by decide +kernel
theorem d_G_answer_61 : decode b_G_answer 61 = .ok (.getfield 200, 3) := by decide +kernel
theorem d_G_answer_64 : decode b_G_answer 64 = .ok (.invokevirtual 162, 3) := by decide +kernel
theorem d_G_answer_67 : decode b_G_answer 67 = .ok (.iconst 1, 1) := by decide +kernel
theorem d_G_answer_68 : decode b_G_answer 68 = .ok (.isub, 1) := by decide +kernel
theorem d_G_answer_69 : decode b_G_answer 69 = .ok (.goto 4, 3) := by decide +kernel
theorem d_G_answer_72 : decode b_G_answer 72 = .ok (.iconst 0, 1) := by decide +kernel
theorem d_G_answer_73 : decode b_G_answer 73 = .ok (.istore_n 2, 1) := by decide +kernel
theorem d_G_answer_74 : decode b_G_answer 74 = .ok (.aload_n 0, 1) := by decide +kernel
theorem d_G_answer_75 : decode b_G_answer 75 = .ok (.getfield 46, 3) := by decide +kernel
theorem d_G_answer_78 : decode b_G_answer 78 = .ok (.invokevirtual 162, 3) := by decide +kernel
theorem d_G_answer_81 : decode b_G_answer 81 = .ok (.iload_n 2, 1) := by decide +kernel
theorem d_G_answer_82 : decode b_G_answer 82 = .ok (.iadd, 1) := by decide +kernel
theorem d_G_answer_83 : decode b_G_answer 83 = .ok (.iconst 1, 1) := by decide +kernel
theorem d_G_answer_84 : decode b_G_answer 84 = .ok (.iadd, 1) := by decide +kernel
theorem d_G_answer_85 : decode b_G_answer 85 = .ok (.bipush 60, 2) := by decide +kernel
theorem d_G_answer_87 : decode b_G_answer 87 = .ok (.if_icmp .le 6, 3) := by decide +kernel
theorem d_G_answer_90 : decode b_G_answer 90 = .ok (.bipush (-104), 2) := by decide +kernel
theorem d_G_answer_92 : decode b_G_answer 92 = .ok (.ireturn, 1) := by decide +kernel
theorem d_G_answer_93 : decode b_G_answer 93 = .ok (.aload_n 0, 1) := by decide +kernel
theorem d_G_answer_94 : decode b_G_answer 94 = .ok (.iload_n 1, 1) := by decide +kernel
theorem d_G_answer_95 : decode b_G_answer 95 = .ok (.iload_n 2, 1) := by decide +kernel
theorem d_G_answer_96 : decode b_G_answer 96 = .ok (.invokevirtual 203, 3) := by decide +kernel
theorem d_G_answer_99 : decode b_G_answer 99 = .ok (.aload_n 0, 1) := by decide +kernel
theorem d_G_answer_100 : decode b_G_answer 100 = .ok (.invokevirtual 179, 3) := by decide +kernel
theorem d_G_answer_103 : decode b_G_answer 103 = .ok (.ireturn, 1) := by decide +kernel
theorem d_Lines_isReversed_0 : decode b_Lines_isReversed 0 = .ok (.aload_n 0, 1) := by decide +kernel
theorem d_Lines_isReversed_1 : decode b_Lines_isReversed 1 = .ok (.iload_n 1, 1) := by decide +kernel
theorem d_Lines_isReversed_2 : decode b_Lines_isReversed 2 = .ok (.invokevirtual 39, 3) := by decide +kernel
theorem d_Lines_isReversed_5 : decode b_Lines_isReversed 5 = .ok (.ifCond .eq 16, 3) := by decide +kernel
theorem d_Lines_isReversed_8 : decode b_Lines_isReversed 8 = .ok (.aload_n 0, 1) := by decide +kernel
theorem d_Lines_isReversed_9 : decode b_Lines_isReversed 9 = .ok (.getfield 18, 3) := by decide +kernel
theorem d_Lines_isReversed_12 : decode b_Lines_isReversed 12 = .ok (.iload_n 1, 1) := by decide +kernel
theorem d_Lines_isReversed_13 : decode b_Lines_isReversed 13 = .ok (.baload, 1) := by decide +kernel
theorem d_Lines_isReversed_14 : decode b_Lines_isReversed 14 = .ok (.ifCond .eq 7, 3) := by decide +kernel
theorem d_Lines_isReversed_17 : decode b_Lines_isReversed 17 = .ok (.iconst 1, 1) := by decide +kernel
theorem d_Lines_isReversed_18 : decode b_Lines_isReversed 18 = .ok (.goto 4, 3) := by decide +kernel
theorem d_Lines_isReversed_21 : decode b_Lines_isReversed 21 = .ok (.iconst 0, 1) := by decide +kernel
theorem d_Lines_isReversed_22 : decode b_Lines_isReversed 22 = .ok (.ireturn, 1) := by decide +kernel
theorem d_Trial_slotsTaken_0 : decode b_Trial_slotsTaken 0 = .ok (.aload_n 0, 1) := by decide +kernel
theorem d_Trial_slotsTaken_1 : decode b_Trial_slotsTaken 1 = .ok (.getfield 12, 3) := by decide +kernel
theorem d_Trial_slotsTaken_4 : decode b_Trial_slotsTaken 4 = .ok (.getfield 64, 3) := by decide +kernel
theorem d_Trial_slotsTaken_7 : decode b_Trial_slotsTaken 7 = .ok (.iconst (-1), 1) := by decide +kernel
theorem d_Trial_slotsTaken_8 : decode b_Trial_slotsTaken 8 = .ok (.if_icmp .ne 7, 3) := by decide +kernel
theorem d_Trial_slotsTaken_11 : decode b_Trial_slotsTaken 11 = .ok (.iconst 0, 1) := by decide +kernel
theorem d_Trial_slotsTaken_12 : decode b_Trial_slotsTaken 12 = .ok (.goto 4, 3) := by decide +kernel
theorem d_Trial_slotsTaken_15 : decode b_Trial_slotsTaken 15 = .ok (.iconst 1, 1) := by decide +kernel
theorem d_Trial_slotsTaken_16 : decode b_Trial_slotsTaken 16 = .ok (.aload_n 0, 1) := by decide +kernel
theorem d_Trial_slotsTaken_17 : decode b_Trial_slotsTaken 17 = .ok (.getfield 18, 3) := by decide +kernel
theorem d_Trial_slotsTaken_20 : decode b_Trial_slotsTaken 20 = .ok (.getfield 64, 3) := by decide +kernel
theorem d_Trial_slotsTaken_23 : decode b_Trial_slotsTaken 23 = .ok (.iconst (-1), 1) := by decide +kernel
theorem d_Trial_slotsTaken_24 : decode b_Trial_slotsTaken 24 = .ok (.if_icmp .ne 7, 3) := by decide +kernel
theorem d_Trial_slotsTaken_27 : decode b_Trial_slotsTaken 27 = .ok (.iconst 0, 1) := by decide +kernel
theorem d_Trial_slotsTaken_28 : decode b_Trial_slotsTaken 28 = .ok (.goto 4, 3) := by decide +kernel
theorem d_Trial_slotsTaken_31 : decode b_Trial_slotsTaken 31 = .ok (.iconst 1, 1) := by decide +kernel
theorem d_Trial_slotsTaken_32 : decode b_Trial_slotsTaken 32 = .ok (.iadd, 1) := by decide +kernel
theorem d_Trial_slotsTaken_33 : decode b_Trial_slotsTaken 33 = .ok (.ireturn, 1) := by decide +kernel
theorem d_G_object_0 : decode b_G_object 0 = .ok (.iload_n 1, 1) := by decide +kernel
theorem d_G_object_1 : decode b_G_object 1 = .ok (.ifCond .lt 19, 3) := by decide +kernel
theorem d_G_object_4 : decode b_G_object 4 = .ok (.iload_n 1, 1) := by decide +kernel
theorem d_G_object_5 : decode b_G_object 5 = .ok (.iconst 2, 1) := by decide +kernel
theorem d_G_object_6 : decode b_G_object 6 = .ok (.if_icmp .ge 14, 3) := by decide +kernel
theorem d_G_object_9 : decode b_G_object 9 = .ok (.aload_n 0, 1) := by decide +kernel
theorem d_G_object_10 : decode b_G_object 10 = .ok (.getfield 76, 3) := by decide +kernel
theorem d_G_object_13 : decode b_G_object 13 = .ok (.getfield 207, 3) := by decide +kernel
theorem d_G_object_16 : decode b_G_object 16 = .ok (.iconst (-1), 1) := by decide +kernel
theorem d_G_object_17 : decode b_G_object 17 = .ok (.if_icmp .ne 5, 3) := by decide +kernel
theorem d_G_object_20 : decode b_G_object 20 = .ok (.iconst (-1), 1) := by decide +kernel
theorem d_G_object_21 : decode b_G_object 21 = .ok (.ireturn, 1) := by decide +kernel
theorem d_G_object_22 : decode b_G_object 22 = .ok (.aload_n 0, 1) := by decide +kernel
theorem d_G_object_23 : decode b_G_object 23 = .ok (.getfield 26, 3) := by decide +kernel
theorem d_G_object_26 : decode b_G_object 26 = .ok (.aload_n 0, 1) := by decide +kernel
theorem d_G_object_27 : decode b_G_object 27 = .ok (.getfield 76, 3) := by decide +kernel
theorem d_G_object_30 : decode b_G_object 30 = .ok (.getfield 210, 3) := by decide +kernel
theorem d_G_object_33 : decode b_G_object 33 = .ok (.invokevirtual 213, 3) := by decide +kernel
theorem d_G_object_36 : decode b_G_object 36 = .ok (.ifCond .eq 18, 3) := by decide +kernel
theorem d_G_object_39 : decode b_G_object 39 = .ok (.aload_n 0, 1) := by decide +kernel
theorem d_G_object_40 : decode b_G_object 40 = .ok (.getfield 69, 3) := by decide +kernel
theorem d_G_object_43 : decode b_G_object 43 = .ok (.invokevirtual 216, 3) := by decide +kernel
theorem d_G_object_46 : decode b_G_object 46 = .ok (.iconst 2, 1) := by decide +kernel
theorem d_G_object_47 : decode b_G_object 47 = .ok (.if_icmp .ne 7, 3) := by decide +kernel
theorem d_G_object_50 : decode b_G_object 50 = .ok (.iconst 1, 1) := by decide +kernel
theorem d_G_object_51 : decode b_G_object 51 = .ok (.goto 4, 3) := by decide +kernel
theorem d_G_object_54 : decode b_G_object 54 = .ok (.iconst 0, 1) := by decide +kernel
theorem d_G_object_55 : decode b_G_object 55 = .ok (.istore_n 3, 1) := by decide +kernel
theorem d_G_object_56 : decode b_G_object 56 = .ok (.iload_n 3, 1) := by decide +kernel
theorem d_G_object_57 : decode b_G_object 57 = .ok (.ifCond .eq 16, 3) := by decide +kernel
theorem d_G_object_60 : decode b_G_object 60 = .ok (.iload_n 1, 1) := by decide +kernel
theorem d_G_object_61 : decode b_G_object 61 = .ok (.iconst 1, 1) := by decide +kernel
theorem d_G_object_62 : decode b_G_object 62 = .ok (.if_icmp .ne 7, 3) := by decide +kernel
theorem d_G_object_65 : decode b_G_object 65 = .ok (.iconst 1, 1) := by decide +kernel
theorem d_G_object_66 : decode b_G_object 66 = .ok (.goto 16, 3) := by decide +kernel
theorem d_G_object_69 : decode b_G_object 69 = .ok (.iconst 0, 1) := by decide +kernel
theorem d_G_object_70 : decode b_G_object 70 = .ok (.goto 12, 3) := by decide +kernel
theorem d_G_object_73 : decode b_G_object 73 = .ok (.iload_n 1, 1) := by decide +kernel
theorem d_G_object_74 : decode b_G_object 74 = .ok (.ifCond .ne 7, 3) := by decide +kernel
theorem d_G_object_77 : decode b_G_object 77 = .ok (.iconst 1, 1) := by decide +kernel
theorem d_G_object_78 : decode b_G_object 78 = .ok (.goto 4, 3) := by decide +kernel
theorem d_G_object_81 : decode b_G_object 81 = .ok (.iconst 0, 1) := by decide +kernel
theorem d_G_object_82 : decode b_G_object 82 = .ok (.istore 4, 2) := by decide +kernel
theorem d_G_object_84 : decode b_G_object 84 = .ok (.iload 4, 2) := by decide +kernel
theorem d_G_object_86 : decode b_G_object 86 = .ok (.ifCond .eq 13, 3) := by decide +kernel
theorem d_G_object_89 : decode b_G_object 89 = .ok (.aload_n 0, 1) := by decide +kernel
theorem d_G_object_90 : decode b_G_object 90 = .ok (.getfield 69, 3) := by decide +kernel
theorem d_G_object_93 : decode b_G_object 93 = .ok (.getfield 219, 3) := by decide +kernel
theorem d_G_object_96 : decode b_G_object 96 = .ok (.goto 10, 3) := by decide +kernel
theorem d_G_object_99 : decode b_G_object 99 = .ok (.aload_n 0, 1) := by decide +kernel
theorem d_G_object_100 : decode b_G_object 100 = .ok (.getfield 69, 3) := by decide +kernel
theorem d_G_object_103 : decode b_G_object 103 = .ok (.getfield 223, 3) := by decide +kernel
theorem d_G_object_106 : decode b_G_object 106 = .ok (.astore 5, 2) := by decide +kernel
theorem d_G_object_108 : decode b_G_object 108 = .ok (.aload 5, 2) := by decide +kernel
theorem d_G_object_110 : decode b_G_object 110 = .ok (.getfield 226, 3) := by decide +kernel
theorem d_G_object_113 : decode b_G_object 113 = .ok (.iconst (-1), 1) := by decide +kernel
theorem d_G_object_114 : decode b_G_object 114 = .ok (.if_icmp .ne 5, 3) := by decide +kernel
theorem d_G_object_117 : decode b_G_object 117 = .ok (.iconst (-1), 1) := by decide +kernel
theorem d_G_object_118 : decode b_G_object 118 = .ok (.ireturn, 1) := by decide +kernel
theorem d_G_object_119 : decode b_G_object 119 = .ok (.iload_n 2, 1) := by decide +kernel
theorem d_G_object_120 : decode b_G_object 120 = .ok (.bipush (-2), 2) := by decide +kernel
theorem d_G_object_122 : decode b_G_object 122 = .ok (.if_icmp .ne 9, 3) := by decide +kernel
theorem d_G_object_125 : decode b_G_object 125 = .ok (.aload 5, 2) := by decide +kernel
theorem d_G_object_127 : decode b_G_object 127 = .ok (.getfield 226, 3) := by decide +kernel
theorem d_G_object_130 : decode b_G_object 130 = .ok (.ireturn, 1) := by decide +kernel
theorem d_G_object_131 : decode b_G_object 131 = .ok (.iload_n 2, 1) := by decide +kernel
theorem d_G_object_132 : decode b_G_object 132 = .ok (.iconst (-1), 1) := by decide +kernel
theorem d_G_object_133 : decode b_G_object 133 = .ok (.if_icmp .ne 14, 3) := by decide +kernel
theorem d_G_object_136 : decode b_G_object 136 = .ok (.aload 5, 2) := by decide +kernel
theorem d_G_object_138 : decode b_G_object 138 = .ok (.getfield 231, 3) := by decide +kernel
theorem d_G_object_141 : decode b_G_object 141 = .ok (.invokevirtual 162, 3) := by decide +kernel
theorem d_G_object_144 : decode b_G_object 144 = .ok (.goto 12, 3) := by decide +kernel
theorem d_G_object_147 : decode b_G_object 147 = .ok (.aload 5, 2) := by decide +kernel
theorem d_G_object_149 : decode b_G_object 149 = .ok (.getfield 231, 3) := by decide +kernel
theorem d_G_object_152 : decode b_G_object 152 = .ok (.iload_n 2, 1) := by decide +kernel
theorem d_G_object_153 : decode b_G_object 153 = .ok (.invokevirtual 234, 3) := by decide +kernel
theorem d_G_object_156 : decode b_G_object 156 = .ok (.ireturn, 1) := by decide +kernel
theorem d_G_asked_0 : decode b_G_asked 0 = .ok (.iload_n 1, 1) := by decide +kernel
theorem d_G_asked_1 : decode b_G_asked 1 = .ok (.iconst (-1), 1) := by decide +kernel
theorem d_G_asked_2 : decode b_G_asked 2 = .ok (.if_icmp .ne 25, 3) := by decide +kernel
theorem d_G_asked_5 : decode b_G_asked 5 = .ok (.aload_n 0, 1) := by decide +kernel
theorem d_G_asked_6 : decode b_G_asked 6 = .ok (.getfield 76, 3) := by decide +kernel
theorem d_G_asked_9 : decode b_G_asked 9 = .ok (.invokevirtual 189, 3) := by decide +kernel
theorem d_G_asked_12 : decode b_G_asked 12 = .ok (.ifCond .eq 13, 3) := by decide +kernel
theorem d_G_asked_15 : decode b_G_asked 15 = .ok (.aload_n 0, 1) := by decide +kernel
theorem d_G_asked_16 : decode b_G_asked 16 = .ok (.getfield 76, 3) := by decide +kernel
theorem d_G_asked_19 : decode b_G_asked 19 = .ok (.getfield 197, 3) := by decide +kernel
theorem d_G_asked_22 : decode b_G_asked 22 = .ok (.goto 4, 3) := by decide +kernel
theorem d_G_asked_25 : decode b_G_asked 25 = .ok (.iconst 0, 1) := by decide +kernel
theorem d_G_asked_26 : decode b_G_asked 26 = .ok (.ireturn, 1) := by decide +kernel
theorem d_G_asked_27 : decode b_G_asked 27 = .ok (.aload_n 0, 1) := by decide +kernel
theorem d_G_asked_28 : decode b_G_asked 28 = .ok (.getfield 76, 3) := by decide +kernel
theorem d_G_asked_31 : decode b_G_asked 31 = .ok (.invokevirtual 189, 3) := by decide +kernel
theorem d_G_asked_34 : decode b_G_asked 34 = .ok (.ifCond .eq 17, 3) := by decide +kernel
