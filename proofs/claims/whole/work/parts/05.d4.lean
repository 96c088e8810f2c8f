theorem d_G_asked_37 : decode b_G_asked 37 = .ok (.aload_n 0, 1) := by decide +kernel
theorem d_G_asked_38 : decode b_G_asked 38 = .ok (.getfield 76, 3) := by decide +kernel
theorem d_G_asked_41 : decode b_G_asked 41 = .ok (.getfield 200, 3) := by decide +kernel
theorem d_G_asked_44 : decode b_G_asked 44 = .ok (.iload_n 1, 1) := by decide +kernel
theorem d_G_asked_45 : decode b_G_asked 45 = .ok (.invokevirtual 234, 3) := by decide +kernel
theorem d_G_asked_48 : decode b_G_asked 48 = .ok (.goto 4, 3) := by decide +kernel
theorem d_G_asked_51 : decode b_G_asked 51 = .ok (.iconst (-1), 1) := by decide +kernel
theorem d_G_asked_52 : decode b_G_asked 52 = .ok (.ireturn, 1) := by decide +kernel
theorem d_G_filled_0 : decode b_G_filled 0 = .ok (.aload_n 0, 1) := by decide +kernel
theorem d_G_filled_1 : decode b_G_filled 1 = .ok (.getfield 76, 3) := by decide +kernel
theorem d_G_filled_4 : decode b_G_filled 4 = .ok (.getfield 207, 3) := by decide +kernel
theorem d_G_filled_7 : decode b_G_filled 7 = .ok (.iconst (-1), 1) := by decide +kernel
theorem d_G_filled_8 : decode b_G_filled 8 = .ok (.if_icmp .ne 7, 3) := by decide +kernel
theorem d_G_filled_11 : decode b_G_filled 11 = .ok (.iconst (-1), 1) := by decide +kernel
theorem d_G_filled_12 : decode b_G_filled 12 = .ok (.goto 14, 3) := by decide +kernel
theorem d_G_filled_15 : decode b_G_filled 15 = .ok (.aload_n 0, 1) := by decide +kernel
theorem d_G_filled_16 : decode b_G_filled 16 = .ok (.getfield 69, 3) := by decide +kernel
theorem d_G_filled_19 : decode b_G_filled 19 = .ok (.getfield 237, 3) := by decide +kernel
theorem d_G_filled_22 : decode b_G_filled 22 = .ok (.iload_n 1, 1) := by decide +kernel
theorem d_G_filled_23 : decode b_G_filled 23 = .ok (.invokevirtual 234, 3) := by decide +kernel
theorem d_G_filled_26 : decode b_G_filled 26 = .ok (.ireturn, 1) := by decide +kernel
theorem d_Verbs_count_0 : decode b_Verbs_count 0 = .ok (.aload_n 0, 1) := by decide +kernel
theorem d_Verbs_count_1 : decode b_Verbs_count 1 = .ok (.getfield 23, 3) := by decide +kernel
theorem d_Verbs_count_4 : decode b_Verbs_count 4 = .ok (.ireturn, 1) := by decide +kernel
theorem d_Things_count_0 : decode b_Things_count 0 = .ok (.aload_n 0, 1) := by decide +kernel
theorem d_Things_count_1 : decode b_Things_count 1 = .ok (.getfield 21, 3) := by decide +kernel
theorem d_Things_count_4 : decode b_Things_count 4 = .ok (.ireturn, 1) := by decide +kernel
theorem d_G_told_0 : decode b_G_told 0 = .ok (.iload_n 1, 1) := by decide +kernel
theorem d_G_told_1 : decode b_G_told 1 = .ok (.tableswitch 147 0 10 #[59, 67, 75, 83, 88, 99, 107, 115, 123, 131, 139], 59) := by decide +kernel
theorem d_G_told_60 : decode b_G_told 60 = .ok (.aload_n 0, 1) := by decide +kernel
theorem d_G_told_61 : decode b_G_told 61 = .ok (.getfield 76, 3) := by decide +kernel
theorem d_G_told_64 : decode b_G_told 64 = .ok (.getfield 197, 3) := by decide +kernel
theorem d_G_told_67 : decode b_G_told 67 = .ok (.ireturn, 1) := by decide +kernel
theorem d_G_told_68 : decode b_G_told 68 = .ok (.aload_n 0, 1) := by decide +kernel
theorem d_G_told_69 : decode b_G_told 69 = .ok (.getfield 76, 3) := by decide +kernel
theorem d_G_told_72 : decode b_G_told 72 = .ok (.getfield 240, 3) := by decide +kernel
theorem d_G_told_75 : decode b_G_told 75 = .ok (.ireturn, 1) := by decide +kernel
theorem d_G_told_76 : decode b_G_told 76 = .ok (.aload_n 0, 1) := by decide +kernel
theorem d_G_told_77 : decode b_G_told 77 = .ok (.getfield 76, 3) := by decide +kernel
theorem d_G_told_80 : decode b_G_told 80 = .ok (.getfield 210, 3) := by decide +kernel
theorem d_G_told_83 : decode b_G_told 83 = .ok (.ireturn, 1) := by decide +kernel
theorem d_G_told_84 : decode b_G_told 84 = .ok (.aload_n 0, 1) := by decide +kernel
theorem d_G_told_85 : decode b_G_told 85 = .ok (.getfield 80, 3) := by decide +kernel
theorem d_G_told_88 : decode b_G_told 88 = .ok (.ireturn, 1) := by decide +kernel
theorem d_G_told_89 : decode b_G_told 89 = .ok (.aload_n 0, 1) := by decide +kernel
theorem d_G_told_90 : decode b_G_told 90 = .ok (.getfield 76, 3) := by decide +kernel
theorem d_G_told_93 : decode b_G_told 93 = .ok (.getfield 243, 3) := by decide +kernel
theorem d_G_told_96 : decode b_G_told 96 = .ok (.invokevirtual 162, 3) := by decide +kernel
theorem d_G_told_99 : decode b_G_told 99 = .ok (.ireturn, 1) := by decide +kernel
theorem d_G_told_100 : decode b_G_told 100 = .ok (.aload_n 0, 1) := by decide +kernel
theorem d_G_told_101 : decode b_G_told 101 = .ok (.getfield 42, 3) := by decide +kernel
theorem d_G_told_104 : decode b_G_told 104 = .ok (.invokevirtual 162, 3) := by decide +kernel
theorem d_G_told_107 : decode b_G_told 107 = .ok (.ireturn, 1) := by decide +kernel
theorem d_G_told_108 : decode b_G_told 108 = .ok (.aload_n 0, 1) := by decide +kernel
theorem d_G_told_109 : decode b_G_told 109 = .ok (.getfield 46, 3) := by decide +kernel
theorem d_G_told_112 : decode b_G_told 112 = .ok (.invokevirtual 162, 3) := by decide +kernel
theorem d_G_told_115 : decode b_G_told 115 = .ok (.ireturn, 1) := by decide +kernel
theorem d_G_told_116 : decode b_G_told 116 = .ok (.aload_n 0, 1) := by decide +kernel
theorem d_G_told_117 : decode b_G_told 117 = .ok (.getfield 19, 3) := by decide +kernel
theorem d_G_told_120 : decode b_G_told 120 = .ok (.invokevirtual 246, 3) := by decide +kernel
theorem d_G_told_123 : decode b_G_told 123 = .ok (.ireturn, 1) := by decide +kernel
theorem d_G_told_124 : decode b_G_told 124 = .ok (.aload_n 0, 1) := by decide +kernel
theorem d_G_told_125 : decode b_G_told 125 = .ok (.getfield 26, 3) := by decide +kernel
theorem d_G_told_128 : decode b_G_told 128 = .ok (.invokevirtual 247, 3) := by decide +kernel
theorem d_G_told_131 : decode b_G_told 131 = .ok (.ireturn, 1) := by decide +kernel
theorem d_G_told_132 : decode b_G_told 132 = .ok (.aload_n 0, 1) := by decide +kernel
theorem d_G_told_133 : decode b_G_told 133 = .ok (.getfield 10, 3) := by decide +kernel
theorem d_G_told_136 : decode b_G_told 136 = .ok (.invokevirtual 248, 3) := by decide +kernel
theorem d_G_told_139 : decode b_G_told 139 = .ok (.ireturn, 1) := by decide +kernel
theorem d_G_told_140 : decode b_G_told 140 = .ok (.aload_n 0, 1) := by decide +kernel
theorem d_G_told_141 : decode b_G_told 141 = .ok (.getfield 33, 3) := by decide +kernel
theorem d_G_told_144 : decode b_G_told 144 = .ok (.invokevirtual 152, 3) := by decide +kernel
theorem d_G_told_147 : decode b_G_told 147 = .ok (.ireturn, 1) := by decide +kernel
theorem d_G_told_148 : decode b_G_told 148 = .ok (.iconst (-1), 1) := by decide +kernel
theorem d_G_told_149 : decode b_G_told 149 = .ok (.ireturn, 1) := by decide +kernel
theorem d_G_trace_0 : decode b_G_trace 0 = .ok (.iload_n 2, 1) := by decide +kernel
theorem d_G_trace_1 : decode b_G_trace 1 = .ok (.tableswitch 63 0 2 #[27, 39, 51], 27) := by decide +kernel
theorem d_G_trace_28 : decode b_G_trace 28 = .ok (.aload_n 0, 1) := by decide +kernel
theorem d_G_trace_29 : decode b_G_trace 29 = .ok (.getfield 76, 3) := by decide +kernel
theorem d_G_trace_32 : decode b_G_trace 32 = .ok (.getfield 243, 3) := by decide +kernel
theorem d_G_trace_35 : decode b_G_trace 35 = .ok (.iload_n 1, 1) := by decide +kernel
theorem d_G_trace_36 : decode b_G_trace 36 = .ok (.invokevirtual 234, 3) := by decide +kernel
theorem d_G_trace_39 : decode b_G_trace 39 = .ok (.ireturn, 1) := by decide +kernel
theorem d_G_trace_40 : decode b_G_trace 40 = .ok (.aload_n 0, 1) := by decide +kernel
theorem d_G_trace_41 : decode b_G_trace 41 = .ok (.getfield 76, 3) := by decide +kernel
theorem d_G_trace_44 : decode b_G_trace 44 = .ok (.getfield 249, 3) := by decide +kernel
theorem d_G_trace_47 : decode b_G_trace 47 = .ok (.iload_n 1, 1) := by decide +kernel
theorem d_G_trace_48 : decode b_G_trace 48 = .ok (.invokevirtual 234, 3) := by decide +kernel
theorem d_G_trace_51 : decode b_G_trace 51 = .ok (.ireturn, 1) := by decide +kernel
theorem d_G_trace_52 : decode b_G_trace 52 = .ok (.aload_n 0, 1) := by decide +kernel
theorem d_G_trace_53 : decode b_G_trace 53 = .ok (.getfield 76, 3) := by decide +kernel
theorem d_G_trace_56 : decode b_G_trace 56 = .ok (.getfield 252, 3) := by decide +kernel
theorem d_G_trace_59 : decode b_G_trace 59 = .ok (.iload_n 1, 1) := by decide +kernel
theorem d_G_trace_60 : decode b_G_trace 60 = .ok (.invokevirtual 234, 3) := by decide +kernel
theorem d_G_trace_63 : decode b_G_trace 63 = .ok (.ireturn, 1) := by decide +kernel
theorem d_G_trace_64 : decode b_G_trace 64 = .ok (.iconst (-1), 1) := by decide +kernel
theorem d_G_trace_65 : decode b_G_trace 65 = .ok (.ireturn, 1) := by decide +kernel
theorem d_G_said_0 : decode b_G_said 0 = .ok (.iload_n 1, 1) := by decide +kernel
theorem d_G_said_1 : decode b_G_said 1 = .ok (.ifCond .ne 12, 3) := by decide +kernel
theorem d_G_said_4 : decode b_G_said 4 = .ok (.aload_n 0, 1) := by decide +kernel
theorem d_G_said_5 : decode b_G_said 5 = .ok (.getfield 46, 3) := by decide +kernel
theorem d_G_said_8 : decode b_G_said 8 = .ok (.iload_n 2, 1) := by decide +kernel
theorem d_G_said_9 : decode b_G_said 9 = .ok (.invokevirtual 234, 3) := by decide +kernel
theorem d_G_said_12 : decode b_G_said 12 = .ok (.ireturn, 1) := by decide +kernel
theorem d_G_said_13 : decode b_G_said 13 = .ok (.iload_n 1, 1) := by decide +kernel
theorem d_G_said_14 : decode b_G_said 14 = .ok (.iconst 1, 1) := by decide +kernel
theorem d_G_said_15 : decode b_G_said 15 = .ok (.if_icmp .ne 14, 3) := by decide +kernel
theorem d_G_said_18 : decode b_G_said 18 = .ok (.aload_n 0, 1) := by decide +kernel
theorem d_G_said_19 : decode b_G_said 19 = .ok (.getfield 42, 3) := by decide +kernel
theorem d_G_said_22 : decode b_G_said 22 = .ok (.iload_n 2, 1) := by decide +kernel
theorem d_G_said_23 : decode b_G_said 23 = .ok (.invokevirtual 234, 3) := by decide +kernel
theorem d_G_said_26 : decode b_G_said 26 = .ok (.goto 4, 3) := by decide +kernel
theorem d_G_said_29 : decode b_G_said 29 = .ok (.iconst (-1), 1) := by decide +kernel
theorem d_G_said_30 : decode b_G_said 30 = .ok (.ireturn, 1) := by decide +kernel
theorem d_M_within_0 : decode b_M_within 0 = .ok (.iload_n 0, 1) := by decide +kernel
theorem d_M_within_1 : decode b_M_within 1 = .ok (.iload_n 1, 1) := by decide +kernel
theorem d_M_within_2 : decode b_M_within 2 = .ok (.if_icmp .lt 12, 3) := by decide +kernel
theorem d_M_within_5 : decode b_M_within 5 = .ok (.iload_n 0, 1) := by decide +kernel
theorem d_M_within_6 : decode b_M_within 6 = .ok (.iload_n 2, 1) := by decide +kernel
theorem d_M_within_7 : decode b_M_within 7 = .ok (.if_icmp .gt 7, 3) := by decide +kernel
theorem d_M_within_10 : decode b_M_within 10 = .ok (.iconst 1, 1) := by decide +kernel
theorem d_M_within_11 : decode b_M_within 11 = .ok (.goto 4, 3) := by decide +kernel
theorem d_M_within_14 : decode b_M_within 14 = .ok (.iconst 0, 1) := by decide +kernel
theorem d_M_within_15 : decode b_M_within 15 = .ok (.ireturn, 1) := by decide +kernel
theorem d_M_isPlain_0 : decode b_M_isPlain 0 = .ok (.iload_n 0, 1) := by decide +kernel
theorem d_M_isPlain_1 : decode b_M_isPlain 1 = .ok (.bipush 10, 2) := by decide +kernel
theorem d_M_isPlain_3 : decode b_M_isPlain 3 = .ok (.sipush 9999, 3) := by decide +kernel
theorem d_M_isPlain_6 : decode b_M_isPlain 6 = .ok (.invokestatic 112, 3) := by decide +kernel
theorem d_M_isPlain_9 : decode b_M_isPlain 9 = .ok (.ireturn, 1) := by decide +kernel
theorem d_M_verbBy_0 : decode b_M_verbBy 0 = .ok (.iconst 0, 1) := by decide +kernel
theorem d_M_verbBy_1 : decode b_M_verbBy 1 = .ok (.istore_n 2, 1) := by decide +kernel
theorem d_M_verbBy_2 : decode b_M_verbBy 2 = .ok (.iload_n 2, 1) := by decide +kernel
theorem d_M_verbBy_3 : decode b_M_verbBy 3 = .ok (.aload_n 0, 1) := by decide +kernel
theorem d_M_verbBy_4 : decode b_M_verbBy 4 = .ok (.getfield 116, 3) := by decide +kernel
theorem d_M_verbBy_7 : decode b_M_verbBy 7 = .ok (.if_icmp .ge 26, 3) := by decide +kernel
theorem d_M_verbBy_10 : decode b_M_verbBy 10 = .ok (.aload_n 0, 1) := by decide +kernel
theorem d_M_verbBy_11 : decode b_M_verbBy 11 = .ok (.getfield 7, 3) := by decide +kernel
theorem d_M_verbBy_14 : decode b_M_verbBy 14 = .ok (.iload_n 2, 1) := by decide +kernel
theorem d_M_verbBy_15 : decode b_M_verbBy 15 = .ok (.iaload, 1) := by decide +kernel
theorem d_M_verbBy_16 : decode b_M_verbBy 16 = .ok (.iload_n 1, 1) := by decide +kernel
theorem d_M_verbBy_17 : decode b_M_verbBy 17 = .ok (.if_icmp .ne 10, 3) := by decide +kernel
theorem d_M_verbBy_20 : decode b_M_verbBy 20 = .ok (.aload_n 0, 1) := by decide +kernel
theorem d_M_verbBy_21 : decode b_M_verbBy 21 = .ok (.getfield 13, 3) := by decide +kernel
theorem d_M_verbBy_24 : decode b_M_verbBy 24 = .ok (.iload_n 2, 1) := by decide +kernel
theorem d_M_verbBy_25 : decode b_M_verbBy 25 = .ok (.iaload, 1) := by decide +kernel
theorem d_M_verbBy_26 : decode b_M_verbBy 26 = .ok (.ireturn, 1) := by decide +kernel
theorem d_M_verbBy_27 : decode b_M_verbBy 27 = .ok (.iinc 2 1, 3) := by decide +kernel
theorem d_M_verbBy_30 : decode b_M_verbBy 30 = .ok (.goto (-28), 3) := by decide +kernel
theorem d_M_verbBy_33 : decode b_M_verbBy 33 = .ok (.iconst (-1), 1) := by decide +kernel
theorem d_M_verbBy_34 : decode b_M_verbBy 34 = .ok (.ireturn, 1) := by decide +kernel
theorem d_M_isOfVerb_0 : decode b_M_isOfVerb 0 = .ok (.aload_n 0, 1) := by decide +kernel
theorem d_M_isOfVerb_1 : decode b_M_isOfVerb 1 = .ok (.getfield 7, 3) := by decide +kernel
theorem d_M_isOfVerb_4 : decode b_M_isOfVerb 4 = .ok (.aload_n 0, 1) := by decide +kernel
theorem d_M_isOfVerb_5 : decode b_M_isOfVerb 5 = .ok (.getfield 116, 3) := by decide +kernel
theorem d_M_isOfVerb_8 : decode b_M_isOfVerb 8 = .ok (.iload_n 2, 1) := by decide +kernel
theorem d_M_isOfVerb_9 : decode b_M_isOfVerb 9 = .ok (.iastore, 1) := by decide +kernel
theorem d_M_isOfVerb_10 : decode b_M_isOfVerb 10 = .ok (.aload_n 0, 1) := by decide +kernel
theorem d_M_isOfVerb_11 : decode b_M_isOfVerb 11 = .ok (.getfield 13, 3) := by decide +kernel
theorem d_M_isOfVerb_14 : decode b_M_isOfVerb 14 = .ok (.aload_n 0, 1) := by decide +kernel
theorem d_M_isOfVerb_15 : decode b_M_isOfVerb 15 = .ok (.getfield 116, 3) := by decide +kernel
theorem d_M_isOfVerb_18 : decode b_M_isOfVerb 18 = .ok (.iload_n 1, 1) := by decide +kernel
theorem d_M_isOfVerb_19 : decode b_M_isOfVerb 19 = .ok (.iastore, 1) := by decide +kernel
theorem d_M_isOfVerb_20 : decode b_M_isOfVerb 20 = .ok (.aload_n 0, 1) := by decide +kernel
theorem d_M_isOfVerb_21 : decode b_M_isOfVerb 21 = .ok (.dup, 1) := by decide +kernel
theorem d_M_isOfVerb_22 : decode b_M_isOfVerb 22 = .ok (.getfield 116, 3) := by decide +kernel
theorem d_M_isOfVerb_25 : decode b_M_isOfVerb 25 = .ok (.iconst 1, 1) := by decide +kernel
theorem d_M_isOfVerb_26 : decode b_M_isOfVerb 26 = .ok (.iadd, 1) := by decide +kernel
theorem d_M_isOfVerb_27 : decode b_M_isOfVerb 27 = .ok (.putfield 116, 3) := by decide +kernel
theorem d_M_isOfVerb_30 : decode b_M_isOfVerb 30 = .ok (.return_, 1) := by decide +kernel
theorem d_M_verb_0 : decode b_M_verb 0 = .ok (.iload_n 1, 1) := by decide +kernel
theorem d_M_verb_1 : decode b_M_verb 1 = .ok (.invokestatic 119, 3) := by decide +kernel
theorem d_M_verb_4 : decode b_M_verb 4 = .ok (.ifCond .eq 12, 3) := by decide +kernel
theorem d_M_verb_7 : decode b_M_verb 7 = .ok (.aload_n 0, 1) := by decide +kernel
theorem d_M_verb_8 : decode b_M_verb 8 = .ok (.iload_n 1, 1) := by decide +kernel
theorem d_M_verb_9 : decode b_M_verb 9 = .ok (.invokevirtual 123, 3) := by decide +kernel
theorem d_M_verb_12 : decode b_M_verb 12 = .ok (.iconst (-1), 1) := by decide +kernel
theorem d_M_verb_13 : decode b_M_verb 13 = .ok (.if_icmp .eq 6, 3) := by decide +kernel
theorem d_M_verb_16 : decode b_M_verb 16 = .ok (.bipush (-102), 2) := by decide +kernel
theorem d_M_verb_18 : decode b_M_verb 18 = .ok (.ireturn, 1) := by decide +kernel
theorem d_M_verb_19 : decode b_M_verb 19 = .ok (.aload_n 0, 1) := by decide +kernel
theorem d_M_verb_20 : decode b_M_verb 20 = .ok (.getfield 127, 3) := by decide +kernel
theorem d_M_verb_23 : decode b_M_verb 23 = .ok (.bipush 20, 2) := by decide +kernel
theorem d_M_verb_25 : decode b_M_verb 25 = .ok (.if_icmp .eq 12, 3) := by decide +kernel
theorem d_M_verb_28 : decode b_M_verb 28 = .ok (.aload_n 0, 1) := by decide +kernel
theorem d_M_verb_29 : decode b_M_verb 29 = .ok (.getfield 116, 3) := by decide +kernel
theorem d_M_verb_32 : decode b_M_verb 32 = .ok (.bipush 60, 2) := by decide +kernel
theorem d_M_verb_34 : decode b_M_verb 34 = .ok (.if_icmp .ne 6, 3) := by decide +kernel
theorem d_M_verb_37 : decode b_M_verb 37 = .ok (.bipush (-104), 2) := by decide +kernel
theorem d_M_verb_39 : decode b_M_verb 39 = .ok (.ireturn, 1) := by decide +kernel
theorem d_M_verb_40 : decode b_M_verb 40 = .ok (.aload_n 0, 1) := by decide +kernel
theorem d_M_verb_41 : decode b_M_verb 41 = .ok (.aload_n 0, 1) := by decide +kernel
theorem d_M_verb_42 : decode b_M_verb 42 = .ok (.getfield 127, 3) := by decide +kernel
theorem d_M_verb_45 : decode b_M_verb 45 = .ok (.iload_n 1, 1) := by decide +kernel
theorem d_M_verb_46 : decode b_M_verb 46 = .ok (.invokevirtual 130, 3) := by decide +kernel
theorem d_M_verb_49 : decode b_M_verb 49 = .ok (.aload_n 0, 1) := by decide +kernel
theorem d_M_verb_50 : decode b_M_verb 50 = .ok (.dup, 1) := by decide +kernel
theorem d_M_verb_51 : decode b_M_verb 51 = .ok (.getfield 127, 3) := by decide +kernel
theorem d_M_verb_54 : decode b_M_verb 54 = .ok (.iconst 1, 1) := by decide +kernel
theorem d_M_verb_55 : decode b_M_verb 55 = .ok (.iadd, 1) := by decide +kernel
theorem d_M_verb_56 : decode b_M_verb 56 = .ok (.putfield 127, 3) := by decide +kernel
theorem d_M_verb_59 : decode b_M_verb 59 = .ok (.aload_n 0, 1) := by decide +kernel
theorem d_M_verb_60 : decode b_M_verb 60 = .ok (.getfield 127, 3) := by decide +kernel
theorem d_M_verb_63 : decode b_M_verb 63 = .ok (.iconst 1, 1) := by decide +kernel
theorem d_M_verb_64 : decode b_M_verb 64 = .ok (.isub, 1) := by decide +kernel
theorem d_M_verb_65 : decode b_M_verb 65 = .ok (.ireturn, 1) := by decide +kernel
theorem d_M_like_0 : decode b_M_like 0 = .ok (.iload_n 1, 1) := by decide +kernel
theorem d_M_like_1 : decode b_M_like 1 = .ok (.iconst 0, 1) := by decide +kernel
theorem d_M_like_2 : decode b_M_like 2 = .ok (.aload_n 0, 1) := by decide +kernel
theorem d_M_like_3 : decode b_M_like 3 = .ok (.getfield 127, 3) := by decide +kernel
theorem d_M_like_6 : decode b_M_like 6 = .ok (.iconst 1, 1) := by decide +kernel
theorem d_M_like_7 : decode b_M_like 7 = .ok (.isub, 1) := by decide +kernel
theorem d_M_like_8 : decode b_M_like 8 = .ok (.invokestatic 112, 3) := by decide +kernel
theorem d_M_like_11 : decode b_M_like 11 = .ok (.ifCond .ne 6, 3) := by decide +kernel
theorem d_M_like_14 : decode b_M_like 14 = .ok (.bipush (-101), 2) := by decide +kernel
theorem d_M_like_16 : decode b_M_like 16 = .ok (.ireturn, 1) := by decide +kernel
theorem d_M_like_17 : decode b_M_like 17 = .ok (.iload_n 2, 1) := by decide +kernel
theorem d_M_like_18 : decode b_M_like 18 = .ok (.invokestatic 119, 3) := by decide +kernel
theorem d_M_like_21 : decode b_M_like 21 = .ok (.ifCond .eq 12, 3) := by decide +kernel
theorem d_M_like_24 : decode b_M_like 24 = .ok (.aload_n 0, 1) := by decide +kernel
theorem d_M_like_25 : decode b_M_like 25 = .ok (.iload_n 2, 1) := by decide +kernel
theorem d_M_like_26 : decode b_M_like 26 = .ok (.invokevirtual 123, 3) := by decide +kernel
theorem d_M_like_29 : decode b_M_like 29 = .ok (.iconst (-1), 1) := by decide +kernel
theorem d_M_like_30 : decode b_M_like 30 = .ok (.if_icmp .eq 6, 3) := by decide +kernel
theorem d_M_like_33 : decode b_M_like 33 = .ok (.bipush (-102), 2) := by decide +kernel
theorem d_M_like_35 : decode b_M_like 35 = .ok (.ireturn, 1) := by decide +kernel
theorem d_M_like_36 : decode b_M_like 36 = .ok (.aload_n 0, 1) := by decide +kernel
theorem d_M_like_37 : decode b_M_like 37 = .ok (.getfield 116, 3) := by decide +kernel
theorem d_M_like_40 : decode b_M_like 40 = .ok (.bipush 60, 2) := by decide +kernel
theorem d_M_like_42 : decode b_M_like 42 = .ok (.if_icmp .ne 6, 3) := by decide +kernel
theorem d_M_like_45 : decode b_M_like 45 = .ok (.bipush (-104), 2) := by decide +kernel
theorem d_M_like_47 : decode b_M_like 47 = .ok (.ireturn, 1) := by decide +kernel
theorem d_M_like_48 : decode b_M_like 48 = .ok (.aload_n 0, 1) := by decide +kernel
theorem d_M_like_49 : decode b_M_like 49 = .ok (.iload_n 1, 1) := by decide +kernel
theorem d_M_like_50 : decode b_M_like 50 = .ok (.iload_n 2, 1) := by decide +kernel
theorem d_M_like_51 : decode b_M_like 51 = .ok (.invokevirtual 130, 3) := by decide +kernel
theorem d_M_like_54 : decode b_M_like 54 = .ok (.iconst 0, 1) := by decide +kernel
theorem d_M_like_55 : decode b_M_like 55 = .ok (.istore_n 3, 1) := by decide +kernel
theorem d_M_like_56 : decode b_M_like 56 = .ok (.iconst 0, 1) := by decide +kernel
theorem d_M_like_57 : decode b_M_like 57 = .ok (.istore 4, 2) := by decide +kernel
theorem d_M_like_59 : decode b_M_like 59 = .ok (.iload 4, 2) := by decide +kernel
theorem d_M_like_61 : decode b_M_like 61 = .ok (.aload_n 0, 1) := by decide +kernel
theorem d_M_like_62 : decode b_M_like 62 = .ok (.getfield 116, 3) := by decide +kernel
theorem d_M_like_65 : decode b_M_like 65 = .ok (.if_icmp .ge 28, 3) := by decide +kernel
theorem d_M_like_68 : decode b_M_like 68 = .ok (.iload_n 3, 1) := by decide +kernel
theorem d_M_like_69 : decode b_M_like 69 = .ok (.aload_n 0, 1) := by decide +kernel
theorem d_M_like_70 : decode b_M_like 70 = .ok (.getfield 13, 3) := by decide +kernel
theorem d_M_like_73 : decode b_M_like 73 = .ok (.iload 4, 2) := by decide +kernel
theorem d_M_like_75 : decode b_M_like 75 = .ok (.iaload, 1) := by decide +kernel
theorem d_M_like_76 : decode b_M_like 76 = .ok (.iload_n 1, 1) := by decide +kernel
theorem d_M_like_77 : decode b_M_like 77 = .ok (.if_icmp .ne 7, 3) := by decide +kernel
theorem d_M_like_80 : decode b_M_like 80 = .ok (.iconst 1, 1) := by decide +kernel
theorem d_M_like_81 : decode b_M_like 81 = .ok (.goto 4, 3) := by decide +kernel
theorem d_M_like_84 : decode b_M_like 84 = .ok (.iconst 0, 1) := by decide +kernel
theorem d_M_like_85 : decode b_M_like 85 = .ok (.iadd, 1) := by decide +kernel
theorem d_M_like_86 : decode b_M_like 86 = .ok (.istore_n 3, 1) := by decide +kernel
theorem d_M_like_87 : decode b_M_like 87 = .ok (.iinc 4 1, 3) := by decide +kernel
theorem d_M_like_90 : decode b_M_like 90 = .ok (.goto (-31), 3) := by decide +kernel
theorem d_M_like_93 : decode b_M_like 93 = .ok (.iload_n 3, 1) := by decide +kernel
theorem d_M_like_94 : decode b_M_like 94 = .ok (.ireturn, 1) := by decide +kernel
theorem d_M_line_0 : decode b_M_line 0 = .ok (.iload_n 1, 1) := by decide +kernel
theorem d_M_line_1 : decode b_M_line 1 = .ok (.iconst 0, 1) := by decide +kernel
theorem d_M_line_2 : decode b_M_line 2 = .ok (.aload_n 0, 1) := by decide +kernel
theorem d_M_line_3 : decode b_M_line 3 = .ok (.getfield 127, 3) := by decide +kernel
theorem d_M_line_6 : decode b_M_line 6 = .ok (.iconst 1, 1) := by decide +kernel
theorem d_M_line_7 : decode b_M_line 7 = .ok (.isub, 1) := by decide +kernel
theorem d_M_line_8 : decode b_M_line 8 = .ok (.invokestatic 112, 3) := by decide +kernel
theorem d_M_line_11 : decode b_M_line 11 = .ok (.ifCond .ne 6, 3) := by decide +kernel
theorem d_M_line_14 : decode b_M_line 14 = .ok (.bipush (-101), 2) := by decide +kernel
theorem d_M_line_16 : decode b_M_line 16 = .ok (.ireturn, 1) := by decide +kernel
theorem d_M_line_17 : decode b_M_line 17 = .ok (.iload_n 2, 1) := by decide +kernel
theorem d_M_line_18 : decode b_M_line 18 = .ok (.iconst 1, 1) := by decide +kernel
theorem d_M_line_19 : decode b_M_line 19 = .ok (.sipush 9999, 3) := by decide +kernel
theorem d_M_line_22 : decode b_M_line 22 = .ok (.invokestatic 112, 3) := by decide +kernel
theorem d_M_line_25 : decode b_M_line 25 = .ok (.ifCond .ne 6, 3) := by decide +kernel
theorem d_M_line_28 : decode b_M_line 28 = .ok (.bipush (-102), 2) := by decide +kernel
theorem d_M_line_30 : decode b_M_line 30 = .ok (.ireturn, 1) := by decide +kernel
theorem d_M_line_31 : decode b_M_line 31 = .ok (.aload_n 0, 1) := by decide +kernel
theorem d_M_line_32 : decode b_M_line 32 = .ok (.getfield 134, 3) := by decide +kernel
theorem d_M_line_35 : decode b_M_line 35 = .ok (.bipush 60, 2) := by decide +kernel
theorem d_M_line_37 : decode b_M_line 37 = .ok (.if_icmp .ne 6, 3) := by decide +kernel
theorem d_M_line_40 : decode b_M_line 40 = .ok (.bipush (-104), 2) := by decide +kernel
theorem d_M_line_42 : decode b_M_line 42 = .ok (.ireturn, 1) := by decide +kernel
theorem d_M_line_43 : decode b_M_line 43 = .ok (.aload_n 0, 1) := by decide +kernel
theorem d_M_line_44 : decode b_M_line 44 = .ok (.getfield 16, 3) := by decide +kernel
theorem d_M_line_47 : decode b_M_line 47 = .ok (.aload_n 0, 1) := by decide +kernel
theorem d_M_line_48 : decode b_M_line 48 = .ok (.getfield 134, 3) := by decide +kernel
theorem d_M_line_51 : decode b_M_line 51 = .ok (.iload_n 1, 1) := by decide +kernel
theorem d_M_line_52 : decode b_M_line 52 = .ok (.iastore, 1) := by decide +kernel
theorem d_M_line_53 : decode b_M_line 53 = .ok (.aload_n 0, 1) := by decide +kernel
theorem d_M_line_54 : decode b_M_line 54 = .ok (.getfield 19, 3) := by decide +kernel
theorem d_M_line_57 : decode b_M_line 57 = .ok (.aload_n 0, 1) := by decide +kernel
theorem d_M_line_58 : decode b_M_line 58 = .ok (.getfield 134, 3) := by decide +kernel
theorem d_M_line_61 : decode b_M_line 61 = .ok (.iload_n 2, 1) := by decide +kernel
theorem d_M_line_62 : decode b_M_line 62 = .ok (.iastore, 1) := by decide +kernel
theorem d_M_line_63 : decode b_M_line 63 = .ok (.aload_n 0, 1) := by decide +kernel
theorem d_M_line_64 : decode b_M_line 64 = .ok (.getfield 22, 3) := by decide +kernel
theorem d_M_line_67 : decode b_M_line 67 = .ok (.aload_n 0, 1) := by decide +kernel
theorem d_M_line_68 : decode b_M_line 68 = .ok (.getfield 134, 3) := by decide +kernel
theorem d_M_line_71 : decode b_M_line 71 = .ok (.iload_n 3, 1) := by decide +kernel
theorem d_M_line_72 : decode b_M_line 72 = .ok (.bastore, 1) := by decide +kernel
theorem d_M_line_73 : decode b_M_line 73 = .ok (.aload_n 0, 1) := by decide +kernel
theorem d_M_line_74 : decode b_M_line 74 = .ok (.getfield 26, 3) := by decide +kernel
theorem d_M_line_77 : decode b_M_line 77 = .ok (.aload_n 0, 1) := by decide +kernel
theorem d_M_line_78 : decode b_M_line 78 = .ok (.getfield 134, 3) := by decide +kernel
theorem d_M_line_81 : decode b_M_line 81 = .ok (.iconst 0, 1) := by decide +kernel
theorem d_M_line_82 : decode b_M_line 82 = .ok (.iastore, 1) := by decide +kernel
theorem d_M_line_83 : decode b_M_line 83 = .ok (.aload_n 0, 1) := by decide +kernel
theorem d_M_line_84 : decode b_M_line 84 = .ok (.dup, 1) := by decide +kernel
theorem d_M_line_85 : decode b_M_line 85 = .ok (.getfield 134, 3) := by decide +kernel
theorem d_M_line_88 : decode b_M_line 88 = .ok (.iconst 1, 1) := by decide +kernel
theorem d_M_line_89 : decode b_M_line 89 = .ok (.iadd, 1) := by decide +kernel
theorem d_M_line_90 : decode b_M_line 90 = .ok (.putfield 134, 3) := by decide +kernel
theorem d_M_line_93 : decode b_M_line 93 = .ok (.aload_n 0, 1) := by decide +kernel
theorem d_M_line_94 : decode b_M_line 94 = .ok (.getfield 134, 3) := by decide +kernel
theorem d_M_line_97 : decode b_M_line 97 = .ok (.iconst 1, 1) := by decide +kernel
theorem d_M_line_98 : decode b_M_line 98 = .ok (.isub, 1) := by decide +kernel
theorem d_M_line_99 : decode b_M_line 99 = .ok (.ireturn, 1) := by decide +kernel
theorem d_M_isSlot_0 : decode b_M_isSlot 0 = .ok (.iload_n 0, 1) := by decide +kernel
theorem d_M_isSlot_1 : decode b_M_isSlot 1 = .ok (.iconst 2, 1) := by decide +kernel
theorem d_M_isSlot_2 : decode b_M_isSlot 2 = .ok (.if_icmp .lt 7, 3) := by decide +kernel
theorem d_M_isSlot_5 : decode b_M_isSlot 5 = .ok (.iconst 1, 1) := by decide +kernel
theorem d_M_isSlot_6 : decode b_M_isSlot 6 = .ok (.goto 4, 3) := by decide +kernel
theorem d_M_isSlot_9 : decode b_M_isSlot 9 = .ok (.iconst 0, 1) := by decide +kernel
theorem d_M_isSlot_10 : decode b_M_isSlot 10 = .ok (.ireturn, 1) := by decide +kernel
theorem d_M_token_0 : decode b_M_token 0 = .ok (.iload_n 1, 1) := by decide +kernel
theorem d_M_token_1 : decode b_M_token 1 = .ok (.iconst 0, 1) := by decide +kernel
theorem d_M_token_2 : decode b_M_token 2 = .ok (.aload_n 0, 1) := by decide +kernel
theorem d_M_token_3 : decode b_M_token 3 = .ok (.getfield 134, 3) := by decide +kernel
theorem d_M_token_6 : decode b_M_token 6 = .ok (.iconst 1, 1) := by decide +kernel
theorem d_M_token_7 : decode b_M_token 7 = .ok (.isub, 1) := by decide +kernel
theorem d_M_token_8 : decode b_M_token 8 = .ok (.invokestatic 112, 3) := by decide +kernel
theorem d_M_token_11 : decode b_M_token 11 = .ok (.ifCond .ne 6, 3) := by decide +kernel
theorem d_M_token_14 : decode b_M_token 14 = .ok (.bipush (-101), 2) := by decide +kernel
theorem d_M_token_16 : decode b_M_token 16 = .ok (.ireturn, 1) := by decide +kernel
theorem d_M_token_17 : decode b_M_token 17 = .ok (.iload_n 2, 1) := by decide +kernel
theorem d_M_token_18 : decode b_M_token 18 = .ok (.iconst 0, 1) := by decide +kernel
theorem d_M_token_19 : decode b_M_token 19 = .ok (.bipush 11, 2) := by decide +kernel
theorem d_M_token_21 : decode b_M_token 21 = .ok (.invokestatic 112, 3) := by decide +kernel
theorem d_M_token_24 : decode b_M_token 24 = .ok (.ifCond .eq 31, 3) := by decide +kernel
theorem d_M_token_27 : decode b_M_token 27 = .ok (.iload_n 2, 1) := by decide +kernel
theorem d_M_token_28 : decode b_M_token 28 = .ok (.iconst 1, 1) := by decide +kernel
theorem d_M_token_29 : decode b_M_token 29 = .ok (.if_icmp .gt 10, 3) := by decide +kernel
theorem d_M_token_32 : decode b_M_token 32 = .ok (.iload_n 3, 1) := by decide +kernel
theorem d_M_token_33 : decode b_M_token 33 = .ok (.invokestatic 119, 3) := by decide +kernel
theorem d_M_token_36 : decode b_M_token 36 = .ok (.ifCond .eq 19, 3) := by decide +kernel
theorem d_M_token_39 : decode b_M_token 39 = .ok (.iload_n 2, 1) := by decide +kernel
theorem d_M_token_40 : decode b_M_token 40 = .ok (.bipush 11, 2) := by decide +kernel
theorem d_M_token_42 : decode b_M_token 42 = .ok (.if_icmp .ne 16, 3) := by decide +kernel
theorem d_M_token_45 : decode b_M_token 45 = .ok (.iload_n 3, 1) := by decide +kernel
theorem d_M_token_46 : decode b_M_token 46 = .ok (.iconst 0, 1) := by decide +kernel
theorem d_M_token_47 : decode b_M_token 47 = .ok (.bipush 9, 2) := by decide +kernel
theorem d_M_token_49 : decode b_M_token 49 = .ok (.invokestatic 112, 3) := by decide +kernel
theorem d_M_token_52 : decode b_M_token 52 = .ok (.ifCond .ne 6, 3) := by decide +kernel
theorem d_M_token_55 : decode b_M_token 55 = .ok (.bipush (-102), 2) := by decide +kernel
theorem d_M_token_57 : decode b_M_token 57 = .ok (.ireturn, 1) := by decide +kernel
theorem d_M_token_58 : decode b_M_token 58 = .ok (.aload_n 0, 1) := by decide +kernel
theorem d_M_token_59 : decode b_M_token 59 = .ok (.getfield 26, 3) := by decide +kernel
theorem d_M_token_62 : decode b_M_token 62 = .ok (.iload_n 1, 1) := by decide +kernel
theorem d_M_token_63 : decode b_M_token 63 = .ok (.iaload, 1) := by decide +kernel
theorem d_M_token_64 : decode b_M_token 64 = .ok (.istore 4, 2) := by decide +kernel
theorem d_M_token_66 : decode b_M_token 66 = .ok (.iload 4, 2) := by decide +kernel
theorem d_M_token_68 : decode b_M_token 68 = .ok (.ifCond .ne 7, 3) := by decide +kernel
theorem d_M_token_71 : decode b_M_token 71 = .ok (.iconst (-1), 1) := by decide +kernel
theorem d_M_token_72 : decode b_M_token 72 = .ok (.goto 17, 3) := by decide +kernel
theorem d_M_token_75 : decode b_M_token 75 = .ok (.aload_n 0, 1) := by decide +kernel
theorem d_M_token_76 : decode b_M_token 76 = .ok (.getfield 29, 3) := by decide +kernel
theorem d_M_token_79 : decode b_M_token 79 = .ok (.bipush 8, 2) := by decide +kernel
theorem d_M_token_81 : decode b_M_token 81 = .ok (.iload_n 1, 1) := by decide +kernel
theorem d_M_token_82 : decode b_M_token 82 = .ok (.imul, 1) := by decide +kernel
theorem d_M_token_83 : decode b_M_token 83 = .ok (.iload 4, 2) := by decide +kernel
theorem d_M_token_85 : decode b_M_token 85 = .ok (.iadd, 1) := by decide +kernel
theorem d_M_token_86 : decode b_M_token 86 = .ok (.iconst 1, 1) := by decide +kernel
theorem d_M_token_87 : decode b_M_token 87 = .ok (.isub, 1) := by decide +kernel
theorem d_M_token_88 : decode b_M_token 88 = .ok (.iaload, 1) := by decide +kernel
theorem d_M_token_89 : decode b_M_token 89 = .ok (.istore 5, 2) := by decide +kernel
theorem d_M_token_91 : decode b_M_token 91 = .ok (.iconst 0, 1) := by decide +kernel
theorem d_M_token_92 : decode b_M_token 92 = .ok (.istore 6, 2) := by decide +kernel
theorem d_M_token_94 : decode b_M_token 94 = .ok (.iconst 0, 1) := by decide +kernel
theorem d_M_token_95 : decode b_M_token 95 = .ok (.istore 7, 2) := by decide +kernel
theorem d_M_token_97 : decode b_M_token 97 = .ok (.iload 7, 2) := by decide +kernel
theorem d_M_token_99 : decode b_M_token 99 = .ok (.iload 4, 2) := by decide +kernel
theorem d_M_token_101 : decode b_M_token 101 = .ok (.if_icmp .ge 37, 3) := by decide +kernel
theorem d_M_token_104 : decode b_M_token 104 = .ok (.iload 6, 2) := by decide +kernel
theorem d_M_token_106 : decode b_M_token 106 = .ok (.aload_n 0, 1) := by decide +kernel
theorem d_M_token_107 : decode b_M_token 107 = .ok (.getfield 29, 3) := by decide +kernel
theorem d_M_token_110 : decode b_M_token 110 = .ok (.bipush 8, 2) := by decide +kernel
theorem d_M_token_112 : decode b_M_token 112 = .ok (.iload_n 1, 1) := by decide +kernel
theorem d_M_token_113 : decode b_M_token 113 = .ok (.imul, 1) := by decide +kernel
theorem d_M_token_114 : decode b_M_token 114 = .ok (.iload 7, 2) := by decide +kernel
theorem d_M_token_116 : decode b_M_token 116 = .ok (.iadd, 1) := by decide +kernel
theorem d_M_token_117 : decode b_M_token 117 = .ok (.iaload, 1) := by decide +kernel
theorem d_M_token_118 : decode b_M_token 118 = .ok (.invokestatic 137, 3) := by decide +kernel
theorem d_M_token_121 : decode b_M_token 121 = .ok (.ifCond .eq 7, 3) := by decide +kernel
theorem d_M_token_124 : decode b_M_token 124 = .ok (.iconst 1, 1) := by decide +kernel
theorem d_M_token_125 : decode b_M_token 125 = .ok (.goto 4, 3) := by decide +kernel
theorem d_M_token_128 : decode b_M_token 128 = .ok (.iconst 0, 1) := by decide +kernel
theorem d_M_token_129 : decode b_M_token 129 = .ok (.iadd, 1) := by decide +kernel
theorem d_M_token_130 : decode b_M_token 130 = .ok (.istore 6, 2) := by decide +kernel
theorem d_M_token_132 : decode b_M_token 132 = .ok (.iinc 7 1, 3) := by decide +kernel
theorem d_M_token_135 : decode b_M_token 135 = .ok (.goto (-38), 3) := by decide +kernel
theorem d_M_token_138 : decode b_M_token 138 = .ok (.iload_n 2, 1) := by decide +kernel
theorem d_M_token_139 : decode b_M_token 139 = .ok (.iconst 1, 1) := by decide +kernel
theorem d_M_token_140 : decode b_M_token 140 = .ok (.if_icmp .ne 14, 3) := by decide +kernel
theorem d_M_token_143 : decode b_M_token 143 = .ok (.iload 5, 2) := by decide +kernel
theorem d_M_token_145 : decode b_M_token 145 = .ok (.ifCond .eq 9, 3) := by decide +kernel
theorem d_M_token_148 : decode b_M_token 148 = .ok (.iload 5, 2) := by decide +kernel
theorem d_M_token_150 : decode b_M_token 150 = .ok (.iconst 1, 1) := by decide +kernel
theorem d_M_token_151 : decode b_M_token 151 = .ok (.if_icmp .ne 27, 3) := by decide +kernel
theorem d_M_token_154 : decode b_M_token 154 = .ok (.iload_n 2, 1) := by decide +kernel
theorem d_M_token_155 : decode b_M_token 155 = .ok (.invokestatic 137, 3) := by decide +kernel
theorem d_M_token_158 : decode b_M_token 158 = .ok (.ifCond .eq 9, 3) := by decide +kernel
theorem d_M_token_161 : decode b_M_token 161 = .ok (.iload 6, 2) := by decide +kernel
theorem d_M_token_163 : decode b_M_token 163 = .ok (.iconst 2, 1) := by decide +kernel
theorem d_M_token_164 : decode b_M_token 164 = .ok (.if_icmp .eq 14, 3) := by decide +kernel
theorem d_M_token_167 : decode b_M_token 167 = .ok (.iload 5, 2) := by decide +kernel
theorem d_M_token_169 : decode b_M_token 169 = .ok (.bipush 9, 2) := by decide +kernel
theorem d_M_token_171 : decode b_M_token 171 = .ok (.if_icmp .ne 10, 3) := by decide +kernel
theorem d_M_token_174 : decode b_M_token 174 = .ok (.iload_n 2, 1) := by decide +kernel
theorem d_M_token_175 : decode b_M_token 175 = .ok (.ifCond .eq 6, 3) := by decide +kernel
theorem d_M_token_178 : decode b_M_token 178 = .ok (.bipush (-103), 2) := by decide +kernel
theorem d_M_token_180 : decode b_M_token 180 = .ok (.ireturn, 1) := by decide +kernel
theorem d_M_token_181 : decode b_M_token 181 = .ok (.iload 4, 2) := by decide +kernel
theorem d_M_token_183 : decode b_M_token 183 = .ok (.bipush 8, 2) := by decide +kernel
theorem d_M_token_185 : decode b_M_token 185 = .ok (.if_icmp .ne 6, 3) := by decide +kernel
theorem d_M_token_188 : decode b_M_token 188 = .ok (.bipush (-104), 2) := by decide +kernel
theorem d_M_token_190 : decode b_M_token 190 = .ok (.ireturn, 1) := by decide +kernel
theorem d_M_token_191 : decode b_M_token 191 = .ok (.aload_n 0, 1) := by decide +kernel
theorem d_M_token_192 : decode b_M_token 192 = .ok (.getfield 29, 3) := by decide +kernel
theorem d_M_token_195 : decode b_M_token 195 = .ok (.bipush 8, 2) := by decide +kernel
theorem d_M_token_197 : decode b_M_token 197 = .ok (.iload_n 1, 1) := by decide +kernel
theorem d_M_token_198 : decode b_M_token 198 = .ok (.imul, 1) := by decide +kernel
theorem d_M_token_199 : decode b_M_token 199 = .ok (.iload 4, 2) := by decide +kernel
theorem d_M_token_201 : decode b_M_token 201 = .ok (.iadd, 1) := by decide +kernel
theorem d_M_token_202 : decode b_M_token 202 = .ok (.iload_n 2, 1) := by decide +kernel
theorem d_M_token_203 : decode b_M_token 203 = .ok (.iastore, 1) := by decide +kernel
theorem d_M_token_204 : decode b_M_token 204 = .ok (.aload_n 0, 1) := by decide +kernel
theorem d_M_token_205 : decode b_M_token 205 = .ok (.getfield 32, 3) := by decide +kernel
theorem d_M_token_208 : decode b_M_token 208 = .ok (.bipush 8, 2) := by decide +kernel
theorem d_M_token_210 : decode b_M_token 210 = .ok (.iload_n 1, 1) := by decide +kernel
theorem d_M_token_211 : decode b_M_token 211 = .ok (.imul, 1) := by decide +kernel
theorem d_M_token_212 : decode b_M_token 212 = .ok (.iload 4, 2) := by decide +kernel
theorem d_M_token_214 : decode b_M_token 214 = .ok (.iadd, 1) := by decide +kernel
theorem d_M_token_215 : decode b_M_token 215 = .ok (.iload_n 3, 1) := by decide +kernel
theorem d_M_token_216 : decode b_M_token 216 = .ok (.iastore, 1) := by decide +kernel
theorem d_M_token_217 : decode b_M_token 217 = .ok (.aload_n 0, 1) := by decide +kernel
theorem d_M_token_218 : decode b_M_token 218 = .ok (.getfield 26, 3) := by decide +kernel
theorem d_M_token_221 : decode b_M_token 221 = .ok (.iload_n 1, 1) := by decide +kernel
theorem d_M_token_222 : decode b_M_token 222 = .ok (.dup2, 1) := by decide +kernel
theorem d_M_token_223 : decode b_M_token 223 = .ok (.iaload, 1) := by decide +kernel
theorem d_M_token_224 : decode b_M_token 224 = .ok (.iconst 1, 1) := by decide +kernel
theorem d_M_token_225 : decode b_M_token 225 = .ok (.iadd, 1) := by decide +kernel
theorem d_M_token_226 : decode b_M_token 226 = .ok (.iastore, 1) := by decide +kernel
theorem d_M_token_227 : decode b_M_token 227 = .ok (.iload 4, 2) := by decide +kernel
theorem d_M_token_229 : decode b_M_token 229 = .ok (.iconst 1, 1) := by decide +kernel
theorem d_M_token_230 : decode b_M_token 230 = .ok (.iadd, 1) := by decide +kernel
theorem d_M_token_231 : decode b_M_token 231 = .ok (.ireturn, 1) := by decide +kernel
theorem d_M_thing_0 : decode b_M_thing 0 = .ok (.iload_n 1, 1) := by decide +kernel
theorem d_M_thing_1 : decode b_M_thing 1 = .ok (.iconst 0, 1) := by decide +kernel
theorem d_M_thing_2 : decode b_M_thing 2 = .ok (.bipush 15, 2) := by decide +kernel
theorem d_M_thing_4 : decode b_M_thing 4 = .ok (.invokestatic 112, 3) := by decide +kernel
theorem d_M_thing_7 : decode b_M_thing 7 = .ok (.ifCond .ne 6, 3) := by decide +kernel
theorem d_M_thing_10 : decode b_M_thing 10 = .ok (.bipush (-102), 2) := by decide +kernel
theorem d_M_thing_12 : decode b_M_thing 12 = .ok (.ireturn, 1) := by decide +kernel
theorem d_M_thing_13 : decode b_M_thing 13 = .ok (.aload_n 0, 1) := by decide +kernel
theorem d_M_thing_14 : decode b_M_thing 14 = .ok (.getfield 140, 3) := by decide +kernel
theorem d_M_thing_17 : decode b_M_thing 17 = .ok (.bipush 40, 2) := by decide +kernel
theorem d_M_thing_19 : decode b_M_thing 19 = .ok (.if_icmp .ne 6, 3) := by decide +kernel
theorem d_M_thing_22 : decode b_M_thing 22 = .ok (.bipush (-104), 2) := by decide +kernel
theorem d_M_thing_24 : decode b_M_thing 24 = .ok (.ireturn, 1) := by decide +kernel
theorem d_M_thing_25 : decode b_M_thing 25 = .ok (.aload_n 0, 1) := by decide +kernel
theorem d_M_thing_26 : decode b_M_thing 26 = .ok (.getfield 35, 3) := by decide +kernel
theorem d_M_thing_29 : decode b_M_thing 29 = .ok (.aload_n 0, 1) := by decide +kernel
theorem d_M_thing_30 : decode b_M_thing 30 = .ok (.getfield 140, 3) := by decide +kernel
theorem d_M_thing_33 : decode b_M_thing 33 = .ok (.iload_n 1, 1) := by decide +kernel
theorem d_M_thing_34 : decode b_M_thing 34 = .ok (.iastore, 1) := by decide +kernel
theorem d_M_thing_35 : decode b_M_thing 35 = .ok (.aload_n 0, 1) := by decide +kernel
theorem d_M_thing_36 : decode b_M_thing 36 = .ok (.getfield 38, 3) := by decide +kernel
theorem d_M_thing_39 : decode b_M_thing 39 = .ok (.aload_n 0, 1) := by decide +kernel
theorem d_M_thing_40 : decode b_M_thing 40 = .ok (.getfield 140, 3) := by decide +kernel
theorem d_M_thing_43 : decode b_M_thing 43 = .ok (.iconst 0, 1) := by decide +kernel
theorem d_M_thing_44 : decode b_M_thing 44 = .ok (.iastore, 1) := by decide +kernel
theorem d_M_thing_45 : decode b_M_thing 45 = .ok (.aload_n 0, 1) := by decide +kernel
theorem d_M_thing_46 : decode b_M_thing 46 = .ok (.dup, 1) := by decide +kernel
theorem d_M_thing_47 : decode b_M_thing 47 = .ok (.getfield 140, 3) := by decide +kernel
theorem d_M_thing_50 : decode b_M_thing 50 = .ok (.iconst 1, 1) := by decide +kernel
theorem d_M_thing_51 : decode b_M_thing 51 = .ok (.iadd, 1) := by decide +kernel
theorem d_M_thing_52 : decode b_M_thing 52 = .ok (.putfield 140, 3) := by decide +kernel
theorem d_M_thing_55 : decode b_M_thing 55 = .ok (.aload_n 0, 1) := by decide +kernel
theorem d_M_thing_56 : decode b_M_thing 56 = .ok (.getfield 140, 3) := by decide +kernel
theorem d_M_thing_59 : decode b_M_thing 59 = .ok (.iconst 1, 1) := by decide +kernel
theorem d_M_thing_60 : decode b_M_thing 60 = .ok (.isub, 1) := by decide +kernel
theorem d_M_thing_61 : decode b_M_thing 61 = .ok (.ireturn, 1) := by decide +kernel
theorem d_M_hasName_0 : decode b_M_hasName 0 = .ok (.iconst 0, 1) := by decide +kernel
theorem d_M_hasName_1 : decode b_M_hasName 1 = .ok (.istore_n 3, 1) := by decide +kernel
theorem d_M_hasName_2 : decode b_M_hasName 2 = .ok (.iconst 0, 1) := by decide +kernel
theorem d_M_hasName_3 : decode b_M_hasName 3 = .ok (.istore 4, 2) := by decide +kernel
theorem d_M_hasName_5 : decode b_M_hasName 5 = .ok (.iload 4, 2) := by decide +kernel
theorem d_M_hasName_7 : decode b_M_hasName 7 = .ok (.aload_n 0, 1) := by decide +kernel
theorem d_M_hasName_8 : decode b_M_hasName 8 = .ok (.getfield 38, 3) := by decide +kernel
theorem d_M_hasName_11 : decode b_M_hasName 11 = .ok (.iload_n 1, 1) := by decide +kernel
theorem d_M_hasName_12 : decode b_M_hasName 12 = .ok (.iaload, 1) := by decide +kernel
theorem d_M_hasName_13 : decode b_M_hasName 13 = .ok (.if_icmp .ge 34, 3) := by decide +kernel
theorem d_M_hasName_16 : decode b_M_hasName 16 = .ok (.iload_n 3, 1) := by decide +kernel
theorem d_M_hasName_17 : decode b_M_hasName 17 = .ok (.ifCond .ne 18, 3) := by decide +kernel
theorem d_M_hasName_20 : decode b_M_hasName 20 = .ok (.aload_n 0, 1) := by decide +kernel
theorem d_M_hasName_21 : decode b_M_hasName 21 = .ok (.getfield 41, 3) := by decide +kernel
theorem d_M_hasName_24 : decode b_M_hasName 24 = .ok (.iconst 4, 1) := by decide +kernel
theorem d_M_hasName_25 : decode b_M_hasName 25 = .ok (.iload_n 1, 1) := by decide +kernel
theorem d_M_hasName_26 : decode b_M_hasName 26 = .ok (.imul, 1) := by decide +kernel
theorem d_M_hasName_27 : decode b_M_hasName 27 = .ok (.iload 4, 2) := by decide +kernel
theorem d_M_hasName_29 : decode b_M_hasName 29 = .ok (.iadd, 1) := by decide +kernel
theorem d_M_hasName_30 : decode b_M_hasName 30 = .ok (.iaload, 1) := by decide +kernel
theorem d_M_hasName_31 : decode b_M_hasName 31 = .ok (.iload_n 2, 1) := by decide +kernel
theorem d_M_hasName_32 : decode b_M_hasName 32 = .ok (.if_icmp .ne 7, 3) := by decide +kernel
theorem d_M_hasName_35 : decode b_M_hasName 35 = .ok (.iconst 1, 1) := by decide +kernel
theorem d_M_hasName_36 : decode b_M_hasName 36 = .ok (.goto 4, 3) := by decide +kernel
theorem d_M_hasName_39 : decode b_M_hasName 39 = .ok (.iconst 0, 1) := by decide +kernel
theorem d_M_hasName_40 : decode b_M_hasName 40 = .ok (.istore_n 3, 1) := by decide +kernel
theorem d_M_hasName_41 : decode b_M_hasName 41 = .ok (.iinc 4 1, 3) := by decide +kernel
theorem d_M_hasName_44 : decode b_M_hasName 44 = .ok (.goto (-39), 3) := by decide +kernel
theorem d_M_hasName_47 : decode b_M_hasName 47 = .ok (.iload_n 3, 1) := by decide +kernel
theorem d_M_hasName_48 : decode b_M_hasName 48 = .ok (.ireturn, 1) := by decide +kernel
theorem d_M_name_0 : decode b_M_name 0 = .ok (.iload_n 1, 1) := by decide +kernel
theorem d_M_name_1 : decode b_M_name 1 = .ok (.iconst 0, 1) := by decide +kernel
theorem d_M_name_2 : decode b_M_name 2 = .ok (.aload_n 0, 1) := by decide +kernel
theorem d_M_name_3 : decode b_M_name 3 = .ok (.getfield 140, 3) := by decide +kernel
theorem d_M_name_6 : decode b_M_name 6 = .ok (.iconst 1, 1) := by decide +kernel
theorem d_M_name_7 : decode b_M_name 7 = .ok (.isub, 1) := by decide +kernel
theorem d_M_name_8 : decode b_M_name 8 = .ok (.invokestatic 112, 3) := by decide +kernel
theorem d_M_name_11 : decode b_M_name 11 = .ok (.ifCond .ne 6, 3) := by decide +kernel
theorem d_M_name_14 : decode b_M_name 14 = .ok (.bipush (-101), 2) := by decide +kernel
theorem d_M_name_16 : decode b_M_name 16 = .ok (.ireturn, 1) := by decide +kernel
theorem d_M_name_17 : decode b_M_name 17 = .ok (.iload_n 2, 1) := by decide +kernel
theorem d_M_name_18 : decode b_M_name 18 = .ok (.invokestatic 119, 3) := by decide +kernel
theorem d_M_name_21 : decode b_M_name 21 = .ok (.ifCond .ne 6, 3) := by decide +kernel
theorem d_M_name_24 : decode b_M_name 24 = .ok (.bipush (-102), 2) := by decide +kernel
theorem d_M_name_26 : decode b_M_name 26 = .ok (.ireturn, 1) := by decide +kernel
theorem d_M_name_27 : decode b_M_name 27 = .ok (.aload_n 0, 1) := by decide +kernel
theorem d_M_name_28 : decode b_M_name 28 = .ok (.iload_n 1, 1) := by decide +kernel
theorem d_M_name_29 : decode b_M_name 29 = .ok (.iload_n 2, 1) := by decide +kernel
theorem d_M_name_30 : decode b_M_name 30 = .ok (.invokevirtual 143, 3) := by decide +kernel
theorem d_M_name_33 : decode b_M_name 33 = .ok (.ifCond .eq 10, 3) := by decide +kernel
theorem d_M_name_36 : decode b_M_name 36 = .ok (.aload_n 0, 1) := by decide +kernel
theorem d_M_name_37 : decode b_M_name 37 = .ok (.getfield 38, 3) := by decide +kernel
theorem d_M_name_40 : decode b_M_name 40 = .ok (.iload_n 1, 1) := by decide +kernel
theorem d_M_name_41 : decode b_M_name 41 = .ok (.iaload, 1) := by decide +kernel
theorem d_M_name_42 : decode b_M_name 42 = .ok (.ireturn, 1) := by decide +kernel
theorem d_M_name_43 : decode b_M_name 43 = .ok (.aload_n 0, 1) := by decide +kernel
theorem d_M_name_44 : decode b_M_name 44 = .ok (.getfield 38, 3) := by decide +kernel
theorem d_M_name_47 : decode b_M_name 47 = .ok (.iload_n 1, 1) := by decide +kernel
theorem d_M_name_48 : decode b_M_name 48 = .ok (.iaload, 1) := by decide +kernel
theorem d_M_name_49 : decode b_M_name 49 = .ok (.iconst 4, 1) := by decide +kernel
theorem d_M_name_50 : decode b_M_name 50 = .ok (.if_icmp .ne 6, 3) := by decide +kernel
theorem d_M_name_53 : decode b_M_name 53 = .ok (.bipush (-104), 2) := by decide +kernel
theorem d_M_name_55 : decode b_M_name 55 = .ok (.ireturn, 1) := by decide +kernel
theorem d_M_name_56 : decode b_M_name 56 = .ok (.aload_n 0, 1) := by decide +kernel
theorem d_M_name_57 : decode b_M_name 57 = .ok (.getfield 41, 3) := by decide +kernel
theorem d_M_name_60 : decode b_M_name 60 = .ok (.iconst 4, 1) := by decide +kernel
theorem d_M_name_61 : decode b_M_name 61 = .ok (.iload_n 1, 1) := by decide +kernel
theorem d_M_name_62 : decode b_M_name 62 = .ok (.imul, 1) := by decide +kernel
theorem d_M_name_63 : decode b_M_name 63 = .ok (.aload_n 0, 1) := by decide +kernel
theorem d_M_name_64 : decode b_M_name 64 = .ok (.getfield 38, 3) := by decide +kernel
theorem d_M_name_67 : decode b_M_name 67 = .ok (.iload_n 1, 1) := by decide +kernel
theorem d_M_name_68 : decode b_M_name 68 = .ok (.iaload, 1) := by decide +kernel
theorem d_M_name_69 : decode b_M_name 69 = .ok (.iadd, 1) := by decide +kernel
theorem d_M_name_70 : decode b_M_name 70 = .ok (.iload_n 2, 1) := by decide +kernel
theorem d_M_name_71 : decode b_M_name 71 = .ok (.iastore, 1) := by decide +kernel
theorem d_M_name_72 : decode b_M_name 72 = .ok (.aload_n 0, 1) := by decide +kernel
theorem d_M_name_73 : decode b_M_name 73 = .ok (.getfield 38, 3) := by decide +kernel
theorem d_M_name_76 : decode b_M_name 76 = .ok (.iload_n 1, 1) := by decide +kernel
theorem d_M_name_77 : decode b_M_name 77 = .ok (.dup2, 1) := by decide +kernel
theorem d_M_name_78 : decode b_M_name 78 = .ok (.iaload, 1) := by decide +kernel
theorem d_M_name_79 : decode b_M_name 79 = .ok (.iconst 1, 1) := by decide +kernel
theorem d_M_name_80 : decode b_M_name 80 = .ok (.iadd, 1) := by decide +kernel
theorem d_M_name_81 : decode b_M_name 81 = .ok (.iastore, 1) := by decide +kernel
theorem d_M_name_82 : decode b_M_name 82 = .ok (.aload_n 0, 1) := by decide +kernel
theorem d_M_name_83 : decode b_M_name 83 = .ok (.getfield 38, 3) := by decide +kernel
theorem d_M_name_86 : decode b_M_name 86 = .ok (.iload_n 1, 1) := by decide +kernel
theorem d_M_name_87 : decode b_M_name 87 = .ok (.iaload, 1) := by decide +kernel
theorem d_M_name_88 : decode b_M_name 88 = .ok (.ireturn, 1) := by decide +kernel
theorem d_M_flags_0 : decode b_M_flags 0 = .ok (.iload_n 1, 1) := by decide +kernel
theorem d_M_flags_1 : decode b_M_flags 1 = .ok (.iconst 0, 1) := by decide +kernel
theorem d_M_flags_2 : decode b_M_flags 2 = .ok (.aload_n 0, 1) := by decide +kernel
theorem d_M_flags_3 : decode b_M_flags 3 = .ok (.getfield 140, 3) := by decide +kernel
theorem d_M_flags_6 : decode b_M_flags 6 = .ok (.iconst 1, 1) := by decide +kernel
theorem d_M_flags_7 : decode b_M_flags 7 = .ok (.isub, 1) := by decide +kernel
theorem d_M_flags_8 : decode b_M_flags 8 = .ok (.invokestatic 112, 3) := by decide +kernel
theorem d_M_flags_11 : decode b_M_flags 11 = .ok (.ifCond .ne 6, 3) := by decide +kernel
theorem d_M_flags_14 : decode b_M_flags 14 = .ok (.bipush (-101), 2) := by decide +kernel
theorem d_M_flags_16 : decode b_M_flags 16 = .ok (.ireturn, 1) := by decide +kernel
theorem d_M_flags_17 : decode b_M_flags 17 = .ok (.iload_n 2, 1) := by decide +kernel
theorem d_M_flags_18 : decode b_M_flags 18 = .ok (.iconst 0, 1) := by decide +kernel
theorem d_M_flags_19 : decode b_M_flags 19 = .ok (.bipush 15, 2) := by decide +kernel
theorem d_M_flags_21 : decode b_M_flags 21 = .ok (.invokestatic 112, 3) := by decide +kernel
theorem d_M_flags_24 : decode b_M_flags 24 = .ok (.ifCond .ne 6, 3) := by decide +kernel
theorem d_M_flags_27 : decode b_M_flags 27 = .ok (.bipush (-102), 2) := by decide +kernel
theorem d_M_flags_29 : decode b_M_flags 29 = .ok (.ireturn, 1) := by decide +kernel
theorem d_M_flags_30 : decode b_M_flags 30 = .ok (.aload_n 0, 1) := by decide +kernel
theorem d_M_flags_31 : decode b_M_flags 31 = .ok (.getfield 35, 3) := by decide +kernel
theorem d_M_flags_34 : decode b_M_flags 34 = .ok (.iload_n 1, 1) := by decide +kernel
theorem d_M_flags_35 : decode b_M_flags 35 = .ok (.iaload, 1) := by decide +kernel
theorem d_M_flags_36 : decode b_M_flags 36 = .ok (.istore_n 3, 1) := by decide +kernel
theorem d_M_flags_37 : decode b_M_flags 37 = .ok (.aload_n 0, 1) := by decide +kernel
theorem d_M_flags_38 : decode b_M_flags 38 = .ok (.getfield 35, 3) := by decide +kernel
theorem d_M_flags_41 : decode b_M_flags 41 = .ok (.iload_n 1, 1) := by decide +kernel
theorem d_M_flags_42 : decode b_M_flags 42 = .ok (.iload_n 2, 1) := by decide +kernel
theorem d_M_flags_43 : decode b_M_flags 43 = .ok (.iastore, 1) := by decide +kernel
theorem d_M_flags_44 : decode b_M_flags 44 = .ok (.iload_n 3, 1) := by decide +kernel
theorem d_M_flags_45 : decode b_M_flags 45 = .ok (.ireturn, 1) := by decide +kernel
theorem d_M_pairOf_0 : decode b_M_pairOf 0 = .ok (.iconst 0, 1) := by decide +kernel
theorem d_M_pairOf_1 : decode b_M_pairOf 1 = .ok (.istore_n 3, 1) := by decide +kernel
theorem d_M_pairOf_2 : decode b_M_pairOf 2 = .ok (.iload_n 3, 1) := by decide +kernel
theorem d_M_pairOf_3 : decode b_M_pairOf 3 = .ok (.aload_n 0, 1) := by decide +kernel
theorem d_M_pairOf_4 : decode b_M_pairOf 4 = .ok (.getfield 147, 3) := by decide +kernel
theorem d_M_pairOf_7 : decode b_M_pairOf 7 = .ok (.if_icmp .ge 29, 3) := by decide +kernel
theorem d_M_pairOf_10 : decode b_M_pairOf 10 = .ok (.aload_n 0, 1) := by decide +kernel
theorem d_M_pairOf_11 : decode b_M_pairOf 11 = .ok (.getfield 44, 3) := by decide +kernel
theorem d_M_pairOf_14 : decode b_M_pairOf 14 = .ok (.iload_n 3, 1) := by decide +kernel
theorem d_M_pairOf_15 : decode b_M_pairOf 15 = .ok (.iaload, 1) := by decide +kernel
theorem d_M_pairOf_16 : decode b_M_pairOf 16 = .ok (.iload_n 1, 1) := by decide +kernel
theorem d_M_pairOf_17 : decode b_M_pairOf 17 = .ok (.if_icmp .ne 13, 3) := by decide +kernel
theorem d_M_pairOf_20 : decode b_M_pairOf 20 = .ok (.aload_n 0, 1) := by decide +kernel
theorem d_M_pairOf_21 : decode b_M_pairOf 21 = .ok (.getfield 47, 3) := by decide +kernel
theorem d_M_pairOf_24 : decode b_M_pairOf 24 = .ok (.iload_n 3, 1) := by decide +kernel
theorem d_M_pairOf_25 : decode b_M_pairOf 25 = .ok (.iaload, 1) := by decide +kernel
theorem d_M_pairOf_26 : decode b_M_pairOf 26 = .ok (.iload_n 2, 1) := by decide +kernel
theorem d_M_pairOf_27 : decode b_M_pairOf 27 = .ok (.if_icmp .eq 9, 3) := by decide +kernel
theorem d_M_pairOf_30 : decode b_M_pairOf 30 = .ok (.iinc 3 1, 3) := by decide +kernel
theorem d_M_pairOf_33 : decode b_M_pairOf 33 = .ok (.goto (-31), 3) := by decide +kernel
theorem d_M_pairOf_36 : decode b_M_pairOf 36 = .ok (.iload_n 3, 1) := by decide +kernel
theorem d_M_pairOf_37 : decode b_M_pairOf 37 = .ok (.ireturn, 1) := by decide +kernel
theorem d_M_custom_0 : decode b_M_custom 0 = .ok (.iload_n 1, 1) := by decide +kernel
theorem d_M_custom_1 : decode b_M_custom 1 = .ok (.iconst 0, 1) := by decide +kernel
theorem d_M_custom_2 : decode b_M_custom 2 = .ok (.bipush 9, 2) := by decide +kernel
theorem d_M_custom_4 : decode b_M_custom 4 = .ok (.invokestatic 112, 3) := by decide +kernel
theorem d_M_custom_7 : decode b_M_custom 7 = .ok (.ifCond .eq 26, 3) := by decide +kernel
theorem d_M_custom_10 : decode b_M_custom 10 = .ok (.iload_n 2, 1) := by decide +kernel
theorem d_M_custom_11 : decode b_M_custom 11 = .ok (.bipush 10, 2) := by decide +kernel
theorem d_M_custom_13 : decode b_M_custom 13 = .ok (.sipush 19999, 3) := by decide +kernel
theorem d_M_custom_16 : decode b_M_custom 16 = .ok (.invokestatic 112, 3) := by decide +kernel
theorem d_M_custom_19 : decode b_M_custom 19 = .ok (.ifCond .eq 14, 3) := by decide +kernel
theorem d_M_custom_22 : decode b_M_custom 22 = .ok (.iload_n 3, 1) := by decide +kernel
theorem d_M_custom_23 : decode b_M_custom 23 = .ok (.iconst 0, 1) := by decide +kernel
theorem d_M_custom_24 : decode b_M_custom 24 = .ok (.sipush 9999, 3) := by decide +kernel
theorem d_M_custom_27 : decode b_M_custom 27 = .ok (.invokestatic 112, 3) := by decide +kernel
theorem d_M_custom_30 : decode b_M_custom 30 = .ok (.ifCond .ne 6, 3) := by decide +kernel
theorem d_M_custom_33 : decode b_M_custom 33 = .ok (.bipush (-102), 2) := by decide +kernel
theorem d_M_custom_35 : decode b_M_custom 35 = .ok (.ireturn, 1) := by decide +kernel
theorem d_M_custom_36 : decode b_M_custom 36 = .ok (.aload_n 0, 1) := by decide +kernel
theorem d_M_custom_37 : decode b_M_custom 37 = .ok (.iload_n 1, 1) := by decide +kernel
theorem d_M_custom_38 : decode b_M_custom 38 = .ok (.iload_n 2, 1) := by decide +kernel
theorem d_M_custom_39 : decode b_M_custom 39 = .ok (.invokevirtual 150, 3) := by decide +kernel
theorem d_M_custom_42 : decode b_M_custom 42 = .ok (.istore 4, 2) := by decide +kernel
theorem d_M_custom_44 : decode b_M_custom 44 = .ok (.iload 4, 2) := by decide +kernel
theorem d_M_custom_46 : decode b_M_custom 46 = .ok (.bipush 40, 2) := by decide +kernel
theorem d_M_custom_48 : decode b_M_custom 48 = .ok (.if_icmp .ne 6, 3) := by decide +kernel
theorem d_M_custom_51 : decode b_M_custom 51 = .ok (.bipush (-104), 2) := by decide +kernel
theorem d_M_custom_53 : decode b_M_custom 53 = .ok (.ireturn, 1) := by decide +kernel
theorem d_M_custom_54 : decode b_M_custom 54 = .ok (.aload_n 0, 1) := by decide +kernel
theorem d_M_custom_55 : decode b_M_custom 55 = .ok (.getfield 44, 3) := by decide +kernel
theorem d_M_custom_58 : decode b_M_custom 58 = .ok (.iload 4, 2) := by decide +kernel
theorem d_M_custom_60 : decode b_M_custom 60 = .ok (.iload_n 1, 1) := by decide +kernel
theorem d_M_custom_61 : decode b_M_custom 61 = .ok (.iastore, 1) := by decide +kernel
theorem d_M_custom_62 : decode b_M_custom 62 = .ok (.aload_n 0, 1) := by decide +kernel
theorem d_M_custom_63 : decode b_M_custom 63 = .ok (.getfield 47, 3) := by decide +kernel
theorem d_M_custom_66 : decode b_M_custom 66 = .ok (.iload 4, 2) := by decide +kernel
theorem d_M_custom_68 : decode b_M_custom 68 = .ok (.iload_n 2, 1) := by decide +kernel
theorem d_M_custom_69 : decode b_M_custom 69 = .ok (.iastore, 1) := by decide +kernel
theorem d_M_custom_70 : decode b_M_custom 70 = .ok (.aload_n 0, 1) := by decide +kernel
theorem d_M_custom_71 : decode b_M_custom 71 = .ok (.getfield 50, 3) := by decide +kernel
theorem d_M_custom_74 : decode b_M_custom 74 = .ok (.iload 4, 2) := by decide +kernel
theorem d_M_custom_76 : decode b_M_custom 76 = .ok (.iload_n 3, 1) := by decide +kernel
theorem d_M_custom_77 : decode b_M_custom 77 = .ok (.iastore, 1) := by decide +kernel
theorem d_M_custom_78 : decode b_M_custom 78 = .ok (.aload_n 0, 1) := by decide +kernel
theorem d_M_custom_79 : decode b_M_custom 79 = .ok (.iload 4, 2) := by decide +kernel
theorem d_M_custom_81 : decode b_M_custom 81 = .ok (.aload_n 0, 1) := by decide +kernel
theorem d_M_custom_82 : decode b_M_custom 82 = .ok (.getfield 147, 3) := by decide +kernel
theorem d_M_custom_85 : decode b_M_custom 85 = .ok (.if_icmp .ne 12, 3) := by decide +kernel
theorem d_M_custom_88 : decode b_M_custom 88 = .ok (.aload_n 0, 1) := by decide +kernel
theorem d_M_custom_89 : decode b_M_custom 89 = .ok (.getfield 147, 3) := by decide +kernel
theorem d_M_custom_92 : decode b_M_custom 92 = .ok (.iconst 1, 1) := by decide +kernel
theorem d_M_custom_93 : decode b_M_custom 93 = .ok (.iadd, 1) := by decide +kernel
theorem d_M_custom_94 : decode b_M_custom 94 = .ok (.goto 7, 3) := by decide +kernel
theorem d_M_custom_97 : decode b_M_custom 97 = .ok (.aload_n 0, 1) := by decide +kernel
theorem d_M_custom_98 : decode b_M_custom 98 = .ok (.getfield 147, 3) := by decide +kernel
theorem d_M_custom_101 : decode b_M_custom 101 = .ok (.putfield 147, 3) := by decide +kernel
theorem d_M_custom_104 : decode b_M_custom 104 = .ok (.aload_n 0, 1) := by decide +kernel
theorem d_M_custom_105 : decode b_M_custom 105 = .ok (.getfield 147, 3) := by decide +kernel
theorem d_M_custom_108 : decode b_M_custom 108 = .ok (.ireturn, 1) := by decide +kernel
theorem d_M_isAny_0 : decode b_M_isAny 0 = .ok (.iload_n 0, 1) := by decide +kernel
theorem d_M_isAny_1 : decode b_M_isAny 1 = .ok (.iconst 1, 1) := by decide +kernel
theorem d_M_isAny_2 : decode b_M_isAny 2 = .ok (.bipush 7, 2) := by decide +kernel
theorem d_M_isAny_4 : decode b_M_isAny 4 = .ok (.invokestatic 112, 3) := by decide +kernel
theorem d_M_isAny_7 : decode b_M_isAny 7 = .ok (.ifCond .ne 15, 3) := by decide +kernel
theorem d_M_isAny_10 : decode b_M_isAny 10 = .ok (.iload_n 0, 1) := by decide +kernel
theorem d_M_isAny_11 : decode b_M_isAny 11 = .ok (.bipush 10, 2) := by decide +kernel
theorem d_M_isAny_13 : decode b_M_isAny 13 = .ok (.sipush 19999, 3) := by decide +kernel
theorem d_M_isAny_16 : decode b_M_isAny 16 = .ok (.invokestatic 112, 3) := by decide +kernel
theorem d_M_isAny_19 : decode b_M_isAny 19 = .ok (.ifCond .eq 7, 3) := by decide +kernel
theorem d_M_isAny_22 : decode b_M_isAny 22 = .ok (.iconst 1, 1) := by decide +kernel
