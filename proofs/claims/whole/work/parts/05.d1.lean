theorem d_G_name_1 : decode b_G_name 1 = .ok (.getfield 10, 3) := by decide +kernel
theorem d_G_name_4 : decode b_G_name 4 = .ok (.iload_n 1, 1) := by decide +kernel
theorem d_G_name_5 : decode b_G_name 5 = .ok (.invokevirtual 133, 3) := by decide +kernel
theorem d_G_name_8 : decode b_G_name 8 = .ok (.ifCond .ne 6, 3) := by decide +kernel
theorem d_G_name_11 : decode b_G_name 11 = .ok (.bipush (-101), 2) := by decide +kernel
theorem d_G_name_13 : decode b_G_name 13 = .ok (.ireturn, 1) := by decide +kernel
theorem d_G_name_14 : decode b_G_name 14 = .ok (.iload_n 2, 1) := by decide +kernel
theorem d_G_name_15 : decode b_G_name 15 = .ok (.invokestatic 134, 3) := by decide +kernel
theorem d_G_name_18 : decode b_G_name 18 = .ok (.ifCond .ne 6, 3) := by decide +kernel
theorem d_G_name_21 : decode b_G_name 21 = .ok (.bipush (-102), 2) := by decide +kernel
theorem d_G_name_23 : decode b_G_name 23 = .ok (.ireturn, 1) := by decide +kernel
theorem d_G_name_24 : decode b_G_name 24 = .ok (.aload_n 0, 1) := by decide +kernel
theorem d_G_name_25 : decode b_G_name 25 = .ok (.getfield 10, 3) := by decide +kernel
theorem d_G_name_28 : decode b_G_name 28 = .ok (.iload_n 1, 1) := by decide +kernel
theorem d_G_name_29 : decode b_G_name 29 = .ok (.iload_n 2, 1) := by decide +kernel
theorem d_G_name_30 : decode b_G_name 30 = .ok (.invokevirtual 137, 3) := by decide +kernel
theorem d_G_name_33 : decode b_G_name 33 = .ok (.ifCond .ne 18, 3) := by decide +kernel
theorem d_G_name_36 : decode b_G_name 36 = .ok (.aload_n 0, 1) := by decide +kernel
theorem d_G_name_37 : decode b_G_name 37 = .ok (.getfield 10, 3) := by decide +kernel
theorem d_G_name_40 : decode b_G_name 40 = .ok (.iload_n 1, 1) := by decide +kernel
theorem d_G_name_41 : decode b_G_name 41 = .ok (.invokevirtual 140, 3) := by decide +kernel
theorem d_G_name_44 : decode b_G_name 44 = .ok (.iconst 4, 1) := by decide +kernel
theorem d_G_name_45 : decode b_G_name 45 = .ok (.if_icmp .lt 6, 3) := by decide +kernel
theorem d_G_name_48 : decode b_G_name 48 = .ok (.bipush (-104), 2) := by decide +kernel
theorem d_G_name_50 : decode b_G_name 50 = .ok (.ireturn, 1) := by decide +kernel
theorem d_G_name_51 : decode b_G_name 51 = .ok (.aload_n 0, 1) := by decide +kernel
theorem d_G_name_52 : decode b_G_name 52 = .ok (.getfield 10, 3) := by decide +kernel
theorem d_G_name_55 : decode b_G_name 55 = .ok (.iload_n 1, 1) := by decide +kernel
theorem d_G_name_56 : decode b_G_name 56 = .ok (.iload_n 2, 1) := by decide +kernel
theorem d_G_name_57 : decode b_G_name 57 = .ok (.invokevirtual 143, 3) := by decide +kernel
theorem d_G_name_60 : decode b_G_name 60 = .ok (.ireturn, 1) := by decide +kernel
theorem d_G_flags_0 : decode b_G_flags 0 = .ok (.aload_n 0, 1) := by decide +kernel
theorem d_G_flags_1 : decode b_G_flags 1 = .ok (.getfield 10, 3) := by decide +kernel
theorem d_G_flags_4 : decode b_G_flags 4 = .ok (.iload_n 1, 1) := by decide +kernel
theorem d_G_flags_5 : decode b_G_flags 5 = .ok (.invokevirtual 133, 3) := by decide +kernel
theorem d_G_flags_8 : decode b_G_flags 8 = .ok (.ifCond .ne 6, 3) := by decide +kernel
theorem d_G_flags_11 : decode b_G_flags 11 = .ok (.bipush (-101), 2) := by decide +kernel
theorem d_G_flags_13 : decode b_G_flags 13 = .ok (.ireturn, 1) := by decide +kernel
theorem d_G_flags_14 : decode b_G_flags 14 = .ok (.iload_n 2, 1) := by decide +kernel
theorem d_G_flags_15 : decode b_G_flags 15 = .ok (.invokestatic 128, 3) := by decide +kernel
theorem d_G_flags_18 : decode b_G_flags 18 = .ok (.ifCond .ne 6, 3) := by decide +kernel
theorem d_G_flags_21 : decode b_G_flags 21 = .ok (.bipush (-102), 2) := by decide +kernel
theorem d_G_flags_23 : decode b_G_flags 23 = .ok (.ireturn, 1) := by decide +kernel
theorem d_G_flags_24 : decode b_G_flags 24 = .ok (.aload_n 0, 1) := by decide +kernel
theorem d_G_flags_25 : decode b_G_flags 25 = .ok (.getfield 10, 3) := by decide +kernel
theorem d_G_flags_28 : decode b_G_flags 28 = .ok (.iload_n 1, 1) := by decide +kernel
theorem d_G_flags_29 : decode b_G_flags 29 = .ok (.iload_n 2, 1) := by decide +kernel
theorem d_G_flags_30 : decode b_G_flags 30 = .ok (.invokevirtual 146, 3) := by decide +kernel
theorem d_G_flags_33 : decode b_G_flags 33 = .ok (.ireturn, 1) := by decide +kernel
theorem d_Values_indexOf_0 : decode b_Values_indexOf 0 = .ok (.iconst 0, 1) := by decide +kernel
theorem d_Values_indexOf_1 : decode b_Values_indexOf 1 = .ok (.istore_n 3, 1) := by decide +kernel
theorem d_Values_indexOf_2 : decode b_Values_indexOf 2 = .ok (.iload_n 3, 1) := by decide +kernel
theorem d_Values_indexOf_3 : decode b_Values_indexOf 3 = .ok (.aload_n 0, 1) := by decide +kernel
theorem d_Values_indexOf_4 : decode b_Values_indexOf 4 = .ok (.getfield 20, 3) := by decide +kernel
theorem d_Values_indexOf_7 : decode b_Values_indexOf 7 = .ok (.invokevirtual 26, 3) := by decide +kernel
theorem d_Values_indexOf_10 : decode b_Values_indexOf 10 = .ok (.if_icmp .ge 35, 3) := by decide +kernel
theorem d_Values_indexOf_13 : decode b_Values_indexOf 13 = .ok (.aload_n 0, 1) := by decide +kernel
theorem d_Values_indexOf_14 : decode b_Values_indexOf 14 = .ok (.getfield 14, 3) := by decide +kernel
theorem d_Values_indexOf_17 : decode b_Values_indexOf 17 = .ok (.iload_n 3, 1) := by decide +kernel
theorem d_Values_indexOf_18 : decode b_Values_indexOf 18 = .ok (.invokevirtual 30, 3) := by decide +kernel
theorem d_Values_indexOf_21 : decode b_Values_indexOf 21 = .ok (.iload_n 1, 1) := by decide +kernel
theorem d_Values_indexOf_22 : decode b_Values_indexOf 22 = .ok (.if_icmp .ne 17, 3) := by decide +kernel
theorem d_Values_indexOf_25 : decode b_Values_indexOf 25 = .ok (.aload_n 0, 1) := by decide +kernel
theorem d_Values_indexOf_26 : decode b_Values_indexOf 26 = .ok (.getfield 20, 3) := by decide +kernel
theorem d_Values_indexOf_29 : decode b_Values_indexOf 29 = .ok (.iload_n 3, 1) := by decide +kernel
theorem d_Values_indexOf_30 : decode b_Values_indexOf 30 = .ok (.invokevirtual 30, 3) := by decide +kernel
theorem d_Values_indexOf_33 : decode b_Values_indexOf 33 = .ok (.iload_n 2, 1) := by decide +kernel
theorem d_Values_indexOf_34 : decode b_Values_indexOf 34 = .ok (.if_icmp .ne 5, 3) := by decide +kernel
theorem d_Values_indexOf_37 : decode b_Values_indexOf 37 = .ok (.iload_n 3, 1) := by decide +kernel
theorem d_Values_indexOf_38 : decode b_Values_indexOf 38 = .ok (.ireturn, 1) := by decide +kernel
theorem d_Values_indexOf_39 : decode b_Values_indexOf 39 = .ok (.iinc 3 1, 3) := by decide +kernel
theorem d_Values_indexOf_42 : decode b_Values_indexOf 42 = .ok (.goto (-40), 3) := by decide +kernel
theorem d_Values_indexOf_45 : decode b_Values_indexOf 45 = .ok (.iconst (-1), 1) := by decide +kernel
theorem d_Values_indexOf_46 : decode b_Values_indexOf 46 = .ok (.ireturn, 1) := by decide +kernel
theorem d_Values_find_0 : decode b_Values_find 0 = .ok (.aload_n 0, 1) := by decide +kernel
theorem d_Values_find_1 : decode b_Values_find 1 = .ok (.getfield 23, 3) := by decide +kernel
theorem d_Values_find_4 : decode b_Values_find 4 = .ok (.aload_n 0, 1) := by decide +kernel
theorem d_Values_find_5 : decode b_Values_find 5 = .ok (.iload_n 1, 1) := by decide +kernel
theorem d_Values_find_6 : decode b_Values_find 6 = .ok (.iload_n 2, 1) := by decide +kernel
theorem d_Values_find_7 : decode b_Values_find 7 = .ok (.invokevirtual 34, 3) := by decide +kernel
theorem d_Values_find_10 : decode b_Values_find 10 = .ok (.invokevirtual 30, 3) := by decide +kernel
theorem d_Values_find_13 : decode b_Values_find 13 = .ok (.ireturn, 1) := by decide +kernel
theorem d_Row_put_0 : decode b_Row_put 0 = .ok (.iload_n 1, 1) := by decide +kernel
theorem d_Row_put_1 : decode b_Row_put 1 = .ok (.ifCond .lt 18, 3) := by decide +kernel
theorem d_Row_put_4 : decode b_Row_put 4 = .ok (.iload_n 1, 1) := by decide +kernel
theorem d_Row_put_5 : decode b_Row_put 5 = .ok (.aload_n 0, 1) := by decide +kernel
theorem d_Row_put_6 : decode b_Row_put 6 = .ok (.getfield 21, 3) := by decide +kernel
theorem d_Row_put_9 : decode b_Row_put 9 = .ok (.if_icmp .ge 10, 3) := by decide +kernel
theorem d_Row_put_12 : decode b_Row_put 12 = .ok (.aload_n 0, 1) := by decide +kernel
theorem d_Row_put_13 : decode b_Row_put 13 = .ok (.getfield 15, 3) := by decide +kernel
theorem d_Row_put_16 : decode b_Row_put 16 = .ok (.iload_n 1, 1) := by decide +kernel
theorem d_Row_put_17 : decode b_Row_put 17 = .ok (.iload_n 2, 1) := by decide +kernel
theorem d_Row_put_18 : decode b_Row_put 18 = .ok (.iastore, 1) := by decide +kernel
theorem d_Row_put_19 : decode b_Row_put 19 = .ok (.return_, 1) := by decide +kernel
theorem d_Values_count_0 : decode b_Values_count 0 = .ok (.aload_n 0, 1) := by decide +kernel
theorem d_Values_count_1 : decode b_Values_count 1 = .ok (.getfield 23, 3) := by decide +kernel
theorem d_Values_count_4 : decode b_Values_count 4 = .ok (.invokevirtual 26, 3) := by decide +kernel
theorem d_Values_count_7 : decode b_Values_count 7 = .ok (.ireturn, 1) := by decide +kernel
theorem d_Values_put_0 : decode b_Values_put 0 = .ok (.aload_n 0, 1) := by decide +kernel
theorem d_Values_put_1 : decode b_Values_put 1 = .ok (.iload_n 1, 1) := by decide +kernel
theorem d_Values_put_2 : decode b_Values_put 2 = .ok (.iload_n 2, 1) := by decide +kernel
theorem d_Values_put_3 : decode b_Values_put 3 = .ok (.invokevirtual 34, 3) := by decide +kernel
theorem d_Values_put_6 : decode b_Values_put 6 = .ok (.istore 4, 2) := by decide +kernel
theorem d_Values_put_8 : decode b_Values_put 8 = .ok (.iload 4, 2) := by decide +kernel
theorem d_Values_put_10 : decode b_Values_put 10 = .ok (.iconst (-1), 1) := by decide +kernel
theorem d_Values_put_11 : decode b_Values_put 11 = .ok (.if_icmp .ne 30, 3) := by decide +kernel
theorem d_Values_put_14 : decode b_Values_put 14 = .ok (.aload_n 0, 1) := by decide +kernel
theorem d_Values_put_15 : decode b_Values_put 15 = .ok (.getfield 14, 3) := by decide +kernel
theorem d_Values_put_18 : decode b_Values_put 18 = .ok (.iload_n 1, 1) := by decide +kernel
theorem d_Values_put_19 : decode b_Values_put 19 = .ok (.invokevirtual 38, 3) := by decide +kernel
theorem d_Values_put_22 : decode b_Values_put 22 = .ok (.aload_n 0, 1) := by decide +kernel
theorem d_Values_put_23 : decode b_Values_put 23 = .ok (.getfield 20, 3) := by decide +kernel
theorem d_Values_put_26 : decode b_Values_put 26 = .ok (.iload_n 2, 1) := by decide +kernel
theorem d_Values_put_27 : decode b_Values_put 27 = .ok (.invokevirtual 38, 3) := by decide +kernel
theorem d_Values_put_30 : decode b_Values_put 30 = .ok (.aload_n 0, 1) := by decide +kernel
theorem d_Values_put_31 : decode b_Values_put 31 = .ok (.getfield 23, 3) := by decide +kernel
theorem d_Values_put_34 : decode b_Values_put 34 = .ok (.iload_n 3, 1) := by decide +kernel
theorem d_Values_put_35 : decode b_Values_put 35 = .ok (.invokevirtual 38, 3) := by decide +kernel
theorem d_Values_put_38 : decode b_Values_put 38 = .ok (.goto 13, 3) := by decide +kernel
theorem d_Values_put_41 : decode b_Values_put 41 = .ok (.aload_n 0, 1) := by decide +kernel
theorem d_Values_put_42 : decode b_Values_put 42 = .ok (.getfield 23, 3) := by decide +kernel
theorem d_Values_put_45 : decode b_Values_put 45 = .ok (.iload 4, 2) := by decide +kernel
theorem d_Values_put_47 : decode b_Values_put 47 = .ok (.iload_n 3, 1) := by decide +kernel
theorem d_Values_put_48 : decode b_Values_put 48 = .ok (.invokevirtual 41, 3) := by decide +kernel
theorem d_Values_put_51 : decode b_Values_put 51 = .ok (.aload_n 0, 1) := by decide +kernel
theorem d_Values_put_52 : decode b_Values_put 52 = .ok (.invokevirtual 45, 3) := by decide +kernel
theorem d_Values_put_55 : decode b_Values_put 55 = .ok (.ireturn, 1) := by decide +kernel
theorem d_G_custom_0 : decode b_G_custom 0 = .ok (.iload_n 2, 1) := by decide +kernel
theorem d_G_custom_1 : decode b_G_custom 1 = .ok (.bipush 10, 2) := by decide +kernel
theorem d_G_custom_3 : decode b_G_custom 3 = .ok (.if_icmp .lt 14, 3) := by decide +kernel
theorem d_G_custom_6 : decode b_G_custom 6 = .ok (.iload_n 2, 1) := by decide +kernel
theorem d_G_custom_7 : decode b_G_custom 7 = .ok (.sipush 19999, 3) := by decide +kernel
theorem d_G_custom_10 : decode b_G_custom 10 = .ok (.if_icmp .gt 7, 3) := by decide +kernel
theorem d_G_custom_13 : decode b_G_custom 13 = .ok (.iconst 1, 1) := by decide +kernel
theorem d_G_custom_14 : decode b_G_custom 14 = .ok (.goto 4, 3) := by decide +kernel
theorem d_G_custom_17 : decode b_G_custom 17 = .ok (.iconst 0, 1) := by decide +kernel
theorem d_G_custom_18 : decode b_G_custom 18 = .ok (.istore 4, 2) := by decide +kernel
theorem d_G_custom_20 : decode b_G_custom 20 = .ok (.iload_n 1, 1) := by decide +kernel
theorem d_G_custom_21 : decode b_G_custom 21 = .ok (.ifCond .lt 25, 3) := by decide +kernel
theorem d_G_custom_24 : decode b_G_custom 24 = .ok (.iload_n 1, 1) := by decide +kernel
theorem d_G_custom_25 : decode b_G_custom 25 = .ok (.bipush 9, 2) := by decide +kernel
theorem d_G_custom_27 : decode b_G_custom 27 = .ok (.if_icmp .gt 19, 3) := by decide +kernel
theorem d_G_custom_30 : decode b_G_custom 30 = .ok (.iload 4, 2) := by decide +kernel
theorem d_G_custom_32 : decode b_G_custom 32 = .ok (.ifCond .eq 14, 3) := by decide +kernel
theorem d_G_custom_35 : decode b_G_custom 35 = .ok (.iload_n 3, 1) := by decide +kernel
theorem d_G_custom_36 : decode b_G_custom 36 = .ok (.ifCond .lt 10, 3) := by decide +kernel
theorem d_G_custom_39 : decode b_G_custom 39 = .ok (.iload_n 3, 1) := by decide +kernel
theorem d_G_custom_40 : decode b_G_custom 40 = .ok (.sipush 9999, 3) := by decide +kernel
theorem d_G_custom_43 : decode b_G_custom 43 = .ok (.if_icmp .le 6, 3) := by decide +kernel
theorem d_G_custom_46 : decode b_G_custom 46 = .ok (.bipush (-102), 2) := by decide +kernel
theorem d_G_custom_48 : decode b_G_custom 48 = .ok (.ireturn, 1) := by decide +kernel
theorem d_G_custom_49 : decode b_G_custom 49 = .ok (.aload_n 0, 1) := by decide +kernel
theorem d_G_custom_50 : decode b_G_custom 50 = .ok (.getfield 33, 3) := by decide +kernel
theorem d_G_custom_53 : decode b_G_custom 53 = .ok (.iload_n 1, 1) := by decide +kernel
theorem d_G_custom_54 : decode b_G_custom 54 = .ok (.iload_n 2, 1) := by decide +kernel
theorem d_G_custom_55 : decode b_G_custom 55 = .ok (.invokevirtual 149, 3) := by decide +kernel
theorem d_G_custom_58 : decode b_G_custom 58 = .ok (.iconst (-1), 1) := by decide +kernel
theorem d_G_custom_59 : decode b_G_custom 59 = .ok (.if_icmp .ne 18, 3) := by decide +kernel
theorem d_G_custom_62 : decode b_G_custom 62 = .ok (.aload_n 0, 1) := by decide +kernel
theorem d_G_custom_63 : decode b_G_custom 63 = .ok (.getfield 33, 3) := by decide +kernel
theorem d_G_custom_66 : decode b_G_custom 66 = .ok (.invokevirtual 152, 3) := by decide +kernel
theorem d_G_custom_69 : decode b_G_custom 69 = .ok (.bipush 40, 2) := by decide +kernel
theorem d_G_custom_71 : decode b_G_custom 71 = .ok (.if_icmp .lt 6, 3) := by decide +kernel
theorem d_G_custom_74 : decode b_G_custom 74 = .ok (.bipush (-104), 2) := by decide +kernel
theorem d_G_custom_76 : decode b_G_custom 76 = .ok (.ireturn, 1) := by decide +kernel
theorem d_G_custom_77 : decode b_G_custom 77 = .ok (.aload_n 0, 1) := by decide +kernel
theorem d_G_custom_78 : decode b_G_custom 78 = .ok (.getfield 33, 3) := by decide +kernel
theorem d_G_custom_81 : decode b_G_custom 81 = .ok (.iload_n 1, 1) := by decide +kernel
theorem d_G_custom_82 : decode b_G_custom 82 = .ok (.iload_n 2, 1) := by decide +kernel
theorem d_G_custom_83 : decode b_G_custom 83 = .ok (.iload_n 3, 1) := by decide +kernel
theorem d_G_custom_84 : decode b_G_custom 84 = .ok (.invokevirtual 156, 3) := by decide +kernel
theorem d_G_custom_87 : decode b_G_custom 87 = .ok (.ireturn, 1) := by decide +kernel
theorem d_G_isWord_0 : decode b_G_isWord 0 = .ok (.iload_n 0, 1) := by decide +kernel
theorem d_G_isWord_1 : decode b_G_isWord 1 = .ok (.iconst 1, 1) := by decide +kernel
theorem d_G_isWord_2 : decode b_G_isWord 2 = .ok (.if_icmp .lt 9, 3) := by decide +kernel
theorem d_G_isWord_5 : decode b_G_isWord 5 = .ok (.iload_n 0, 1) := by decide +kernel
theorem d_G_isWord_6 : decode b_G_isWord 6 = .ok (.bipush 7, 2) := by decide +kernel
theorem d_G_isWord_8 : decode b_G_isWord 8 = .ok (.if_icmp .le 16, 3) := by decide +kernel
theorem d_G_isWord_11 : decode b_G_isWord 11 = .ok (.iload_n 0, 1) := by decide +kernel
theorem d_G_isWord_12 : decode b_G_isWord 12 = .ok (.bipush 10, 2) := by decide +kernel
theorem d_G_isWord_14 : decode b_G_isWord 14 = .ok (.if_icmp .lt 14, 3) := by decide +kernel
theorem d_G_isWord_17 : decode b_G_isWord 17 = .ok (.iload_n 0, 1) := by decide +kernel
theorem d_G_isWord_18 : decode b_G_isWord 18 = .ok (.sipush 19999, 3) := by decide +kernel
theorem d_G_isWord_21 : decode b_G_isWord 21 = .ok (.if_icmp .gt 7, 3) := by decide +kernel
theorem d_G_isWord_24 : decode b_G_isWord 24 = .ok (.iconst 1, 1) := by decide +kernel
theorem d_G_isWord_25 : decode b_G_isWord 25 = .ok (.goto 4, 3) := by decide +kernel
theorem d_G_isWord_28 : decode b_G_isWord 28 = .ok (.iconst 0, 1) := by decide +kernel
theorem d_G_isWord_29 : decode b_G_isWord 29 = .ok (.ireturn, 1) := by decide +kernel
theorem d_G_word_0 : decode b_G_word 0 = .ok (.iload_n 1, 1) := by decide +kernel
theorem d_G_word_1 : decode b_G_word 1 = .ok (.invokestatic 159, 3) := by decide +kernel
theorem d_G_word_4 : decode b_G_word 4 = .ok (.ifCond .ne 6, 3) := by decide +kernel
theorem d_G_word_7 : decode b_G_word 7 = .ok (.bipush (-102), 2) := by decide +kernel
theorem d_G_word_9 : decode b_G_word 9 = .ok (.ireturn, 1) := by decide +kernel
theorem d_G_word_10 : decode b_G_word 10 = .ok (.aload_n 0, 1) := by decide +kernel
theorem d_G_word_11 : decode b_G_word 11 = .ok (.getfield 42, 3) := by decide +kernel
theorem d_G_word_14 : decode b_G_word 14 = .ok (.invokevirtual 162, 3) := by decide +kernel
theorem d_G_word_17 : decode b_G_word 17 = .ok (.bipush 60, 2) := by decide +kernel
theorem d_G_word_19 : decode b_G_word 19 = .ok (.if_icmp .lt 6, 3) := by decide +kernel
theorem d_G_word_22 : decode b_G_word 22 = .ok (.bipush (-104), 2) := by decide +kernel
theorem d_G_word_24 : decode b_G_word 24 = .ok (.ireturn, 1) := by decide +kernel
theorem d_G_word_25 : decode b_G_word 25 = .ok (.aload_n 0, 1) := by decide +kernel
theorem d_G_word_26 : decode b_G_word 26 = .ok (.getfield 42, 3) := by decide +kernel
theorem d_G_word_29 : decode b_G_word 29 = .ok (.iload_n 1, 1) := by decide +kernel
theorem d_G_word_30 : decode b_G_word 30 = .ok (.invokevirtual 165, 3) := by decide +kernel
theorem d_G_word_33 : decode b_G_word 33 = .ok (.aload_n 0, 1) := by decide +kernel
theorem d_G_word_34 : decode b_G_word 34 = .ok (.getfield 42, 3) := by decide +kernel
theorem d_G_word_37 : decode b_G_word 37 = .ok (.invokevirtual 162, 3) := by decide +kernel
theorem d_G_word_40 : decode b_G_word 40 = .ok (.ireturn, 1) := by decide +kernel
theorem d_Row_empty_0 : decode b_Row_empty 0 = .ok (.aload_n 0, 1) := by decide +kernel
theorem d_Row_empty_1 : decode b_Row_empty 1 = .ok (.iconst 0, 1) := by decide +kernel
theorem d_Row_empty_2 : decode b_Row_empty 2 = .ok (.putfield 21, 3) := by decide +kernel
theorem d_Row_empty_5 : decode b_Row_empty 5 = .ok (.return_, 1) := by decide +kernel
theorem d_G_clear_0 : decode b_G_clear 0 = .ok (.aload_n 0, 1) := by decide +kernel
theorem d_G_clear_1 : decode b_G_clear 1 = .ok (.getfield 42, 3) := by decide +kernel
theorem d_G_clear_4 : decode b_G_clear 4 = .ok (.invokevirtual 162, 3) := by decide +kernel
theorem d_G_clear_7 : decode b_G_clear 7 = .ok (.istore_n 1, 1) := by decide +kernel
theorem d_G_clear_8 : decode b_G_clear 8 = .ok (.aload_n 0, 1) := by decide +kernel
theorem d_G_clear_9 : decode b_G_clear 9 = .ok (.getfield 42, 3) := by decide +kernel
theorem d_G_clear_12 : decode b_G_clear 12 = .ok (.invokevirtual 167, 3) := by decide +kernel
theorem d_G_clear_15 : decode b_G_clear 15 = .ok (.iload_n 1, 1) := by decide +kernel
theorem d_G_clear_16 : decode b_G_clear 16 = .ok (.ireturn, 1) := by decide +kernel
theorem d_Things_namedOf_0 : decode b_Things_namedOf 0 = .ok (.lconst 0, 1) := by decide +kernel
theorem d_Things_namedOf_1 : decode b_Things_namedOf 1 = .ok (.lstore 4, 2) := by decide +kernel
theorem d_Things_namedOf_3 : decode b_Things_namedOf 3 = .ok (.iconst 0, 1) := by decide +kernel
theorem d_Things_namedOf_4 : decode b_Things_namedOf 4 = .ok (.istore 6, 2) := by decide +kernel
theorem d_Things_namedOf_6 : decode b_Things_namedOf 6 = .ok (.iload 6, 2) := by decide +kernel
theorem d_Things_namedOf_8 : decode b_Things_namedOf 8 = .ok (.aload_n 0, 1) := by decide +kernel
theorem d_Things_namedOf_9 : decode b_Things_namedOf 9 = .ok (.getfield 21, 3) := by decide +kernel
theorem d_Things_namedOf_12 : decode b_Things_namedOf 12 = .ok (.if_icmp .ge 78, 3) := by decide +kernel
theorem d_Things_namedOf_15 : decode b_Things_namedOf 15 = .ok (.lload_n 1, 1) := by decide +kernel
theorem d_Things_namedOf_16 : decode b_Things_namedOf 16 = .ok (.iload 6, 2) := by decide +kernel
theorem d_Things_namedOf_18 : decode b_Things_namedOf 18 = .ok (.lshr, 1) := by decide +kernel
theorem d_Things_namedOf_19 : decode b_Things_namedOf 19 = .ok (.lconst 1, 1) := by decide +kernel
theorem d_Things_namedOf_20 : decode b_Things_namedOf 20 = .ok (.land, 1) := by decide +kernel
theorem d_Things_namedOf_21 : decode b_Things_namedOf 21 = .ok (.lconst 0, 1) := by decide +kernel
theorem d_Things_namedOf_22 : decode b_Things_namedOf 22 = .ok (.lcmp, 1) := by decide +kernel
theorem d_Things_namedOf_23 : decode b_Things_namedOf 23 = .ok (.ifCond .eq 7, 3) := by decide +kernel
theorem d_Things_namedOf_26 : decode b_Things_namedOf 26 = .ok (.iconst 1, 1) := by decide +kernel
theorem d_Things_namedOf_27 : decode b_Things_namedOf 27 = .ok (.goto 4, 3) := by decide +kernel
theorem d_Things_namedOf_30 : decode b_Things_namedOf 30 = .ok (.iconst 0, 1) := by decide +kernel
theorem d_Things_namedOf_31 : decode b_Things_namedOf 31 = .ok (.istore 7, 2) := by decide +kernel
theorem d_Things_namedOf_33 : decode b_Things_namedOf 33 = .ok (.iconst 0, 1) := by decide +kernel
theorem d_Things_namedOf_34 : decode b_Things_namedOf 34 = .ok (.istore 8, 2) := by decide +kernel
theorem d_Things_namedOf_36 : decode b_Things_namedOf 36 = .ok (.iload 7, 2) := by decide +kernel
theorem d_Things_namedOf_38 : decode b_Things_namedOf 38 = .ok (.ifCond .eq 46, 3) := by decide +kernel
theorem d_Things_namedOf_41 : decode b_Things_namedOf 41 = .ok (.iload 8, 2) := by decide +kernel
theorem d_Things_namedOf_43 : decode b_Things_namedOf 43 = .ok (.aload_n 0, 1) := by decide +kernel
theorem d_Things_namedOf_44 : decode b_Things_namedOf 44 = .ok (.getfield 15, 3) := by decide +kernel
theorem d_Things_namedOf_47 : decode b_Things_namedOf 47 = .ok (.iload 6, 2) := by decide +kernel
theorem d_Things_namedOf_49 : decode b_Things_namedOf 49 = .ok (.iaload, 1) := by decide +kernel
theorem d_Things_namedOf_50 : decode b_Things_namedOf 50 = .ok (.if_icmp .ge 34, 3) := by decide +kernel
theorem d_Things_namedOf_53 : decode b_Things_namedOf 53 = .ok (.aload_n 0, 1) := by decide +kernel
theorem d_Things_namedOf_54 : decode b_Things_namedOf 54 = .ok (.getfield 18, 3) := by decide +kernel
theorem d_Things_namedOf_57 : decode b_Things_namedOf 57 = .ok (.iload 6, 2) := by decide +kernel
theorem d_Things_namedOf_59 : decode b_Things_namedOf 59 = .ok (.iconst 4, 1) := by decide +kernel
theorem d_Things_namedOf_60 : decode b_Things_namedOf 60 = .ok (.imul, 1) := by decide +kernel
theorem d_Things_namedOf_61 : decode b_Things_namedOf 61 = .ok (.iload 8, 2) := by decide +kernel
theorem d_Things_namedOf_63 : decode b_Things_namedOf 63 = .ok (.iadd, 1) := by decide +kernel
theorem d_Things_namedOf_64 : decode b_Things_namedOf 64 = .ok (.iaload, 1) := by decide +kernel
theorem d_Things_namedOf_65 : decode b_Things_namedOf 65 = .ok (.iload_n 3, 1) := by decide +kernel
theorem d_Things_namedOf_66 : decode b_Things_namedOf 66 = .ok (.if_icmp .ne 12, 3) := by decide +kernel
theorem d_Things_namedOf_69 : decode b_Things_namedOf 69 = .ok (.lload 4, 2) := by decide +kernel
theorem d_Things_namedOf_71 : decode b_Things_namedOf 71 = .ok (.lconst 1, 1) := by decide +kernel
theorem d_Things_namedOf_72 : decode b_Things_namedOf 72 = .ok (.iload 6, 2) := by decide +kernel
theorem d_Things_namedOf_74 : decode b_Things_namedOf 74 = .ok (.lshl, 1) := by decide +kernel
theorem d_Things_namedOf_75 : decode b_Things_namedOf 75 = .ok (.lor, 1) := by decide +kernel
theorem d_Things_namedOf_76 : decode b_Things_namedOf 76 = .ok (.lstore 4, 2) := by decide +kernel
theorem d_Things_namedOf_78 : decode b_Things_namedOf 78 = .ok (.iinc 8 1, 3) := by decide +kernel
theorem d_Things_namedOf_81 : decode b_Things_namedOf 81 = .ok (.goto (-45), 3) := by decide +kernel
theorem d_Things_namedOf_84 : decode b_Things_namedOf 84 = .ok (.iinc 6 1, 3) := by decide +kernel
theorem d_Things_namedOf_87 : decode b_Things_namedOf 87 = .ok (.goto (-81), 3) := by decide +kernel
theorem d_Things_namedOf_90 : decode b_Things_namedOf 90 = .ok (.lload 4, 2) := by decide +kernel
theorem d_Things_namedOf_92 : decode b_Things_namedOf 92 = .ok (.lreturn, 1) := by decide +kernel
theorem d_Phrase_find_0 : decode b_Phrase_find 0 = .ok (.aload_n 0, 1) := by decide +kernel
theorem d_Phrase_find_1 : decode b_Phrase_find 1 = .ok (.aload_n 0, 1) := by decide +kernel
theorem d_Phrase_find_2 : decode b_Phrase_find 2 = .ok (.getfield 7, 3) := by decide +kernel
theorem d_Phrase_find_5 : decode b_Phrase_find 5 = .ok (.getfield 13, 3) := by decide +kernel
theorem d_Phrase_find_8 : decode b_Phrase_find 8 = .ok (.putfield 19, 3) := by decide +kernel
theorem d_Phrase_find_11 : decode b_Phrase_find 11 = .ok (.aload_n 0, 1) := by decide +kernel
theorem d_Phrase_find_12 : decode b_Phrase_find 12 = .ok (.iload_n 2, 1) := by decide +kernel
theorem d_Phrase_find_13 : decode b_Phrase_find 13 = .ok (.putfield 22, 3) := by decide +kernel
theorem d_Phrase_find_16 : decode b_Phrase_find 16 = .ok (.iload_n 2, 1) := by decide +kernel
theorem d_Phrase_find_17 : decode b_Phrase_find 17 = .ok (.istore_n 3, 1) := by decide +kernel
theorem d_Phrase_find_18 : decode b_Phrase_find 18 = .ok (.iload_n 3, 1) := by decide +kernel
theorem d_Phrase_find_19 : decode b_Phrase_find 19 = .ok (.aload_n 1, 1) := by decide +kernel
theorem d_Phrase_find_20 : decode b_Phrase_find 20 = .ok (.invokevirtual 26, 3) := by decide +kernel
theorem d_Phrase_find_23 : decode b_Phrase_find 23 = .ok (.if_icmp .ge 50, 3) := by decide +kernel
theorem d_Phrase_find_26 : decode b_Phrase_find 26 = .ok (.aload_n 0, 1) := by decide +kernel
theorem d_Phrase_find_27 : decode b_Phrase_find 27 = .ok (.getfield 7, 3) := by decide +kernel
theorem d_Phrase_find_30 : decode b_Phrase_find 30 = .ok (.aload_n 0, 1) := by decide +kernel
theorem d_Phrase_find_31 : decode b_Phrase_find 31 = .ok (.getfield 19, 3) := by decide +kernel
theorem d_Phrase_find_34 : decode b_Phrase_find 34 = .ok (.aload_n 1, 1) := by decide +kernel
theorem d_Phrase_find_35 : decode b_Phrase_find 35 = .ok (.iload_n 3, 1) := by decide +kernel
theorem d_Phrase_find_36 : decode b_Phrase_find 36 = .ok (.invokevirtual 32, 3) := by decide +kernel
theorem d_Phrase_find_39 : decode b_Phrase_find 39 = .ok (.invokevirtual 36, 3) := by decide +kernel
theorem d_Phrase_find_42 : decode b_Phrase_find 42 = .ok (.lstore 4, 2) := by decide +kernel
theorem d_Phrase_find_44 : decode b_Phrase_find 44 = .ok (.lload 4, 2) := by decide +kernel
theorem d_Phrase_find_46 : decode b_Phrase_find 46 = .ok (.lconst 0, 1) := by decide +kernel
theorem d_Phrase_find_47 : decode b_Phrase_find 47 = .ok (.lcmp, 1) := by decide +kernel
theorem d_Phrase_find_48 : decode b_Phrase_find 48 = .ok (.ifCond .ne 6, 3) := by decide +kernel
theorem d_Phrase_find_51 : decode b_Phrase_find 51 = .ok (.goto 22, 3) := by decide +kernel
theorem d_Phrase_find_54 : decode b_Phrase_find 54 = .ok (.aload_n 0, 1) := by decide +kernel
theorem d_Phrase_find_55 : decode b_Phrase_find 55 = .ok (.lload 4, 2) := by decide +kernel
theorem d_Phrase_find_57 : decode b_Phrase_find 57 = .ok (.putfield 19, 3) := by decide +kernel
theorem d_Phrase_find_60 : decode b_Phrase_find 60 = .ok (.aload_n 0, 1) := by decide +kernel
theorem d_Phrase_find_61 : decode b_Phrase_find 61 = .ok (.iload_n 3, 1) := by decide +kernel
theorem d_Phrase_find_62 : decode b_Phrase_find 62 = .ok (.iconst 1, 1) := by decide +kernel
theorem d_Phrase_find_63 : decode b_Phrase_find 63 = .ok (.iadd, 1) := by decide +kernel
theorem d_Phrase_find_64 : decode b_Phrase_find 64 = .ok (.putfield 22, 3) := by decide +kernel
theorem d_Phrase_find_67 : decode b_Phrase_find 67 = .ok (.iinc 3 1, 3) := by decide +kernel
theorem d_Phrase_find_70 : decode b_Phrase_find 70 = .ok (.goto (-52), 3) := by decide +kernel
theorem d_Phrase_find_73 : decode b_Phrase_find 73 = .ok (.aload_n 0, 1) := by decide +kernel
theorem d_Phrase_find_74 : decode b_Phrase_find 74 = .ok (.getfield 22, 3) := by decide +kernel
theorem d_Phrase_find_77 : decode b_Phrase_find 77 = .ok (.iload_n 2, 1) := by decide +kernel
theorem d_Phrase_find_78 : decode b_Phrase_find 78 = .ok (.if_icmp .le 7, 3) := by decide +kernel
theorem d_Phrase_find_81 : decode b_Phrase_find 81 = .ok (.iconst 1, 1) := by decide +kernel
theorem d_Phrase_find_82 : decode b_Phrase_find 82 = .ok (.goto 4, 3) := by decide +kernel
theorem d_Phrase_find_85 : decode b_Phrase_find 85 = .ok (.iconst 0, 1) := by decide +kernel
theorem d_Phrase_find_86 : decode b_Phrase_find 86 = .ok (.ireturn, 1) := by decide +kernel
theorem d_JLong_bitCount_0 : decode b_JLong_bitCount 0 = .ok (.lload_n 0, 1) := by decide +kernel
theorem d_JLong_bitCount_1 : decode b_JLong_bitCount 1 = .ok (.lload_n 0, 1) := by decide +kernel
theorem d_JLong_bitCount_2 : decode b_JLong_bitCount 2 = .ok (.iconst 1, 1) := by decide +kernel
theorem d_JLong_bitCount_3 : decode b_JLong_bitCount 3 = .ok (.lushr, 1) := by decide +kernel
theorem d_JLong_bitCount_4 : decode b_JLong_bitCount 4 = .ok (.ldc2_w 314, 3) := by decide +kernel
theorem d_JLong_bitCount_7 : decode b_JLong_bitCount 7 = .ok (.land, 1) := by decide +kernel
theorem d_JLong_bitCount_8 : decode b_JLong_bitCount 8 = .ok (.lsub, 1) := by decide +kernel
theorem d_JLong_bitCount_9 : decode b_JLong_bitCount 9 = .ok (.lstore_n 0, 1) := by decide +kernel
theorem d_JLong_bitCount_10 : decode b_JLong_bitCount 10 = .ok (.lload_n 0, 1) := by decide +kernel
theorem d_JLong_bitCount_11 : decode b_JLong_bitCount 11 = .ok (.ldc2_w 316, 3) := by decide +kernel
theorem d_JLong_bitCount_14 : decode b_JLong_bitCount 14 = .ok (.land, 1) := by decide +kernel
theorem d_JLong_bitCount_15 : decode b_JLong_bitCount 15 = .ok (.lload_n 0, 1) := by decide +kernel
theorem d_JLong_bitCount_16 : decode b_JLong_bitCount 16 = .ok (.iconst 2, 1) := by decide +kernel
theorem d_JLong_bitCount_17 : decode b_JLong_bitCount 17 = .ok (.lushr, 1) := by decide +kernel
theorem d_JLong_bitCount_18 : decode b_JLong_bitCount 18 = .ok (.ldc2_w 316, 3) := by decide +kernel
theorem d_JLong_bitCount_21 : decode b_JLong_bitCount 21 = .ok (.land, 1) := by decide +kernel
theorem d_JLong_bitCount_22 : decode b_JLong_bitCount 22 = .ok (.ladd, 1) := by decide +kernel
theorem d_JLong_bitCount_23 : decode b_JLong_bitCount 23 = .ok (.lstore_n 0, 1) := by decide +kernel
theorem d_JLong_bitCount_24 : decode b_JLong_bitCount 24 = .ok (.lload_n 0, 1) := by decide +kernel
theorem d_JLong_bitCount_25 : decode b_JLong_bitCount 25 = .ok (.lload_n 0, 1) := by decide +kernel
theorem d_JLong_bitCount_26 : decode b_JLong_bitCount 26 = .ok (.iconst 4, 1) := by decide +kernel
theorem d_JLong_bitCount_27 : decode b_JLong_bitCount 27 = .ok (.lushr, 1) := by decide +kernel
theorem d_JLong_bitCount_28 : decode b_JLong_bitCount 28 = .ok (.ladd, 1) := by decide +kernel
theorem d_JLong_bitCount_29 : decode b_JLong_bitCount 29 = .ok (.ldc2_w 318, 3) := by decide +kernel
theorem d_JLong_bitCount_32 : decode b_JLong_bitCount 32 = .ok (.land, 1) := by decide +kernel
theorem d_JLong_bitCount_33 : decode b_JLong_bitCount 33 = .ok (.lstore_n 0, 1) := by decide +kernel
theorem d_JLong_bitCount_34 : decode b_JLong_bitCount 34 = .ok (.lload_n 0, 1) := by decide +kernel
theorem d_JLong_bitCount_35 : decode b_JLong_bitCount 35 = .ok (.lload_n 0, 1) := by decide +kernel
theorem d_JLong_bitCount_36 : decode b_JLong_bitCount 36 = .ok (.bipush 8, 2) := by decide +kernel
theorem d_JLong_bitCount_38 : decode b_JLong_bitCount 38 = .ok (.lushr, 1) := by decide +kernel
theorem d_JLong_bitCount_39 : decode b_JLong_bitCount 39 = .ok (.ladd, 1) := by decide +kernel
theorem d_JLong_bitCount_40 : decode b_JLong_bitCount 40 = .ok (.lstore_n 0, 1) := by decide +kernel
theorem d_JLong_bitCount_41 : decode b_JLong_bitCount 41 = .ok (.lload_n 0, 1) := by decide +kernel
theorem d_JLong_bitCount_42 : decode b_JLong_bitCount 42 = .ok (.lload_n 0, 1) := by decide +kernel
theorem d_JLong_bitCount_43 : decode b_JLong_bitCount 43 = .ok (.bipush 16, 2) := by decide +kernel
theorem d_JLong_bitCount_45 : decode b_JLong_bitCount 45 = .ok (.lushr, 1) := by decide +kernel
theorem d_JLong_bitCount_46 : decode b_JLong_bitCount 46 = .ok (.ladd, 1) := by decide +kernel
theorem d_JLong_bitCount_47 : decode b_JLong_bitCount 47 = .ok (.lstore_n 0, 1) := by decide +kernel
theorem d_JLong_bitCount_48 : decode b_JLong_bitCount 48 = .ok (.lload_n 0, 1) := by decide +kernel
theorem d_JLong_bitCount_49 : decode b_JLong_bitCount 49 = .ok (.lload_n 0, 1) := by decide +kernel
theorem d_JLong_bitCount_50 : decode b_JLong_bitCount 50 = .ok (.bipush 32, 2) := by decide +kernel
theorem d_JLong_bitCount_52 : decode b_JLong_bitCount 52 = .ok (.lushr, 1) := by decide +kernel
theorem d_JLong_bitCount_53 : decode b_JLong_bitCount 53 = .ok (.ladd, 1) := by decide +kernel
theorem d_JLong_bitCount_54 : decode b_JLong_bitCount 54 = .ok (.lstore_n 0, 1) := by decide +kernel
theorem d_JLong_bitCount_55 : decode b_JLong_bitCount 55 = .ok (.lload_n 0, 1) := by decide +kernel
theorem d_JLong_bitCount_56 : decode b_JLong_bitCount 56 = .ok (.l2i, 1) := by decide +kernel
theorem d_JLong_bitCount_57 : decode b_JLong_bitCount 57 = .ok (.bipush 127, 2) := by decide +kernel
theorem d_JLong_bitCount_59 : decode b_JLong_bitCount 59 = .ok (.iand, 1) := by decide +kernel
theorem d_JLong_bitCount_60 : decode b_JLong_bitCount 60 = .ok (.ireturn, 1) := by decide +kernel
theorem d_Row_dropFirst_0 : decode b_Row_dropFirst 0 = .ok (.iconst 0, 1) := by decide +kernel
theorem d_Row_dropFirst_1 : decode b_Row_dropFirst 1 = .ok (.iload_n 1, 1) := by decide +kernel
theorem d_Row_dropFirst_2 : decode b_Row_dropFirst 2 = .ok (.aload_n 0, 1) := by decide +kernel
theorem d_Row_dropFirst_3 : decode b_Row_dropFirst 3 = .ok (.getfield 21, 3) := by decide +kernel
theorem d_Row_dropFirst_6 : decode b_Row_dropFirst 6 = .ok (.invokestatic 25, 3) := by decide +kernel
theorem d_Row_dropFirst_9 : decode b_Row_dropFirst 9 = .ok (.invokestatic 9, 3) := by decide +kernel
theorem d_Row_dropFirst_12 : decode b_Row_dropFirst 12 = .ok (.istore_n 2, 1) := by decide +kernel
theorem d_Row_dropFirst_13 : decode b_Row_dropFirst 13 = .ok (.iload_n 2, 1) := by decide +kernel
theorem d_Row_dropFirst_14 : decode b_Row_dropFirst 14 = .ok (.istore_n 3, 1) := by decide +kernel
theorem d_Row_dropFirst_15 : decode b_Row_dropFirst 15 = .ok (.iload_n 3, 1) := by decide +kernel
theorem d_Row_dropFirst_16 : decode b_Row_dropFirst 16 = .ok (.aload_n 0, 1) := by decide +kernel
theorem d_Row_dropFirst_17 : decode b_Row_dropFirst 17 = .ok (.getfield 21, 3) := by decide +kernel
theorem d_Row_dropFirst_20 : decode b_Row_dropFirst 20 = .ok (.if_icmp .ge 23, 3) := by decide +kernel
theorem d_Row_dropFirst_23 : decode b_Row_dropFirst 23 = .ok (.aload_n 0, 1) := by decide +kernel
theorem d_Row_dropFirst_24 : decode b_Row_dropFirst 24 = .ok (.getfield 15, 3) := by decide +kernel
theorem d_Row_dropFirst_27 : decode b_Row_dropFirst 27 = .ok (.iload_n 3, 1) := by decide +kernel
theorem d_Row_dropFirst_28 : decode b_Row_dropFirst 28 = .ok (.iload_n 2, 1) := by decide +kernel
theorem d_Row_dropFirst_29 : decode b_Row_dropFirst 29 = .ok (.isub, 1) := by decide +kernel
theorem d_Row_dropFirst_30 : decode b_Row_dropFirst 30 = .ok (.aload_n 0, 1) := by decide +kernel
theorem d_Row_dropFirst_31 : decode b_Row_dropFirst 31 = .ok (.getfield 15, 3) := by decide +kernel
theorem d_Row_dropFirst_34 : decode b_Row_dropFirst 34 = .ok (.iload_n 3, 1) := by decide +kernel
theorem d_Row_dropFirst_35 : decode b_Row_dropFirst 35 = .ok (.iaload, 1) := by decide +kernel
theorem d_Row_dropFirst_36 : decode b_Row_dropFirst 36 = .ok (.iastore, 1) := by decide +kernel
theorem d_Row_dropFirst_37 : decode b_Row_dropFirst 37 = .ok (.iinc 3 1, 3) := by decide +kernel
theorem d_Row_dropFirst_40 : decode b_Row_dropFirst 40 = .ok (.goto (-25), 3) := by decide +kernel
theorem d_Row_dropFirst_43 : decode b_Row_dropFirst 43 = .ok (.aload_n 0, 1) := by decide +kernel
theorem d_Row_dropFirst_44 : decode b_Row_dropFirst 44 = .ok (.dup, 1) := by decide +kernel
theorem d_Row_dropFirst_45 : decode b_Row_dropFirst 45 = .ok (.getfield 21, 3) := by decide +kernel
theorem d_Row_dropFirst_48 : decode b_Row_dropFirst 48 = .ok (.iload_n 2, 1) := by decide +kernel
theorem d_Row_dropFirst_49 : decode b_Row_dropFirst 49 = .ok (.isub, 1) := by decide +kernel
theorem d_Row_dropFirst_50 : decode b_Row_dropFirst 50 = .ok (.putfield 21, 3) := by decide +kernel
theorem d_Row_dropFirst_53 : decode b_Row_dropFirst 53 = .ok (.return_, 1) := by decide +kernel
theorem d_Things_firstOf_0 : decode b_Things_firstOf 0 = .ok (.iconst 0, 1) := by decide +kernel
theorem d_Things_firstOf_1 : decode b_Things_firstOf 1 = .ok (.istore_n 3, 1) := by decide +kernel
theorem d_Things_firstOf_2 : decode b_Things_firstOf 2 = .ok (.iload_n 3, 1) := by decide +kernel
theorem d_Things_firstOf_3 : decode b_Things_firstOf 3 = .ok (.aload_n 0, 1) := by decide +kernel
theorem d_Things_firstOf_4 : decode b_Things_firstOf 4 = .ok (.getfield 21, 3) := by decide +kernel
theorem d_Things_firstOf_7 : decode b_Things_firstOf 7 = .ok (.if_icmp .ge 21, 3) := by decide +kernel
theorem d_Things_firstOf_10 : decode b_Things_firstOf 10 = .ok (.lload_n 1, 1) := by decide +kernel
theorem d_Things_firstOf_11 : decode b_Things_firstOf 11 = .ok (.iload_n 3, 1) := by decide +kernel
theorem d_Things_firstOf_12 : decode b_Things_firstOf 12 = .ok (.lshr, 1) := by decide +kernel
theorem d_Things_firstOf_13 : decode b_Things_firstOf 13 = .ok (.lconst 1, 1) := by decide +kernel
theorem d_Things_firstOf_14 : decode b_Things_firstOf 14 = .ok (.land, 1) := by decide +kernel
theorem d_Things_firstOf_15 : decode b_Things_firstOf 15 = .ok (.lconst 0, 1) := by decide +kernel
theorem d_Things_firstOf_16 : decode b_Things_firstOf 16 = .ok (.lcmp, 1) := by decide +kernel
theorem d_Things_firstOf_17 : decode b_Things_firstOf 17 = .ok (.ifCond .eq 5, 3) := by decide +kernel
theorem d_Things_firstOf_20 : decode b_Things_firstOf 20 = .ok (.iload_n 3, 1) := by decide +kernel
theorem d_Things_firstOf_21 : decode b_Things_firstOf 21 = .ok (.ireturn, 1) := by decide +kernel
theorem d_Things_firstOf_22 : decode b_Things_firstOf 22 = .ok (.iinc 3 1, 3) := by decide +kernel
theorem d_Things_firstOf_25 : decode b_Things_firstOf 25 = .ok (.goto (-23), 3) := by decide +kernel
theorem d_Things_firstOf_28 : decode b_Things_firstOf 28 = .ok (.iconst (-1), 1) := by decide +kernel
theorem d_Things_firstOf_29 : decode b_Things_firstOf 29 = .ok (.ireturn, 1) := by decide +kernel
theorem d_G_takeOrder_0 : decode b_G_takeOrder 0 = .ok (.aload_n 0, 1) := by decide +kernel
theorem d_G_takeOrder_1 : decode b_G_takeOrder 1 = .ok (.getfield 60, 3) := by decide +kernel
theorem d_G_takeOrder_4 : decode b_G_takeOrder 4 = .ok (.aload_n 0, 1) := by decide +kernel
theorem d_G_takeOrder_5 : decode b_G_takeOrder 5 = .ok (.getfield 42, 3) := by decide +kernel
theorem d_G_takeOrder_8 : decode b_G_takeOrder 8 = .ok (.iconst 0, 1) := by decide +kernel
theorem d_G_takeOrder_9 : decode b_G_takeOrder 9 = .ok (.invokevirtual 255, 3) := by decide +kernel
theorem d_G_takeOrder_12 : decode b_G_takeOrder 12 = .ok (.ifCond .eq 17, 3) := by decide +kernel
theorem d_G_takeOrder_15 : decode b_G_takeOrder 15 = .ok (.aload_n 0, 1) := by decide +kernel
theorem d_G_takeOrder_16 : decode b_G_takeOrder 16 = .ok (.getfield 60, 3) := by decide +kernel
theorem d_G_takeOrder_19 : decode b_G_takeOrder 19 = .ok (.getfield 258, 3) := by decide +kernel
theorem d_G_takeOrder_22 : decode b_G_takeOrder 22 = .ok (.invokestatic 262, 3) := by decide +kernel
theorem d_G_takeOrder_25 : decode b_G_takeOrder 25 = .ok (.iconst 1, 1) := by decide +kernel
theorem d_G_takeOrder_26 : decode b_G_takeOrder 26 = .ok (.if_icmp .eq 5, 3) := by decide +kernel
theorem d_G_takeOrder_29 : decode b_G_takeOrder 29 = .ok (.iconst (-1), 1) := by decide +kernel
theorem d_G_takeOrder_30 : decode b_G_takeOrder 30 = .ok (.ireturn, 1) := by decide +kernel
theorem d_G_takeOrder_31 : decode b_G_takeOrder 31 = .ok (.aload_n 0, 1) := by decide +kernel
theorem d_G_takeOrder_32 : decode b_G_takeOrder 32 = .ok (.getfield 60, 3) := by decide +kernel
theorem d_G_takeOrder_35 : decode b_G_takeOrder 35 = .ok (.getfield 258, 3) := by decide +kernel
theorem d_G_takeOrder_38 : decode b_G_takeOrder 38 = .ok (.aload_n 0, 1) := by decide +kernel
theorem d_G_takeOrder_39 : decode b_G_takeOrder 39 = .ok (.getfield 10, 3) := by decide +kernel
theorem d_G_takeOrder_42 : decode b_G_takeOrder 42 = .ok (.getfield 268, 3) := by decide +kernel
theorem d_G_takeOrder_45 : decode b_G_takeOrder 45 = .ok (.land, 1) := by decide +kernel
theorem d_G_takeOrder_46 : decode b_G_takeOrder 46 = .ok (.lconst 0, 1) := by decide +kernel
theorem d_G_takeOrder_47 : decode b_G_takeOrder 47 = .ok (.lcmp, 1) := by decide +kernel
theorem d_G_takeOrder_48 : decode b_G_takeOrder 48 = .ok (.ifCond .eq 7, 3) := by decide +kernel
theorem d_G_takeOrder_51 : decode b_G_takeOrder 51 = .ok (.iconst 1, 1) := by decide +kernel
theorem d_G_takeOrder_52 : decode b_G_takeOrder 52 = .ok (.goto 4, 3) := by decide +kernel
theorem d_G_takeOrder_55 : decode b_G_takeOrder 55 = .ok (.iconst 0, 1) := by decide +kernel
theorem d_G_takeOrder_56 : decode b_G_takeOrder 56 = .ok (.istore_n 1, 1) := by decide +kernel
theorem d_G_takeOrder_57 : decode b_G_takeOrder 57 = .ok (.aload_n 0, 1) := by decide +kernel
theorem d_G_takeOrder_58 : decode b_G_takeOrder 58 = .ok (.getfield 60, 3) := by decide +kernel
theorem d_G_takeOrder_61 : decode b_G_takeOrder 61 = .ok (.getfield 271, 3) := by decide +kernel
theorem d_G_takeOrder_64 : decode b_G_takeOrder 64 = .ok (.istore_n 2, 1) := by decide +kernel
theorem d_G_takeOrder_65 : decode b_G_takeOrder 65 = .ok (.iload_n 1, 1) := by decide +kernel
theorem d_G_takeOrder_66 : decode b_G_takeOrder 66 = .ok (.ifCond .eq 29, 3) := by decide +kernel
theorem d_G_takeOrder_69 : decode b_G_takeOrder 69 = .ok (.aload_n 0, 1) := by decide +kernel
theorem d_G_takeOrder_70 : decode b_G_takeOrder 70 = .ok (.getfield 42, 3) := by decide +kernel
theorem d_G_takeOrder_73 : decode b_G_takeOrder 73 = .ok (.iload_n 2, 1) := by decide +kernel
theorem d_G_takeOrder_74 : decode b_G_takeOrder 74 = .ok (.invokevirtual 234, 3) := by decide +kernel
theorem d_G_takeOrder_77 : decode b_G_takeOrder 77 = .ok (.bipush 7, 2) := by decide +kernel
theorem d_G_takeOrder_79 : decode b_G_takeOrder 79 = .ok (.if_icmp .ne 16, 3) := by decide +kernel
theorem d_G_takeOrder_82 : decode b_G_takeOrder 82 = .ok (.aload_n 0, 1) := by decide +kernel
theorem d_G_takeOrder_83 : decode b_G_takeOrder 83 = .ok (.getfield 42, 3) := by decide +kernel
theorem d_G_takeOrder_86 : decode b_G_takeOrder 86 = .ok (.invokevirtual 162, 3) := by decide +kernel
theorem d_G_takeOrder_89 : decode b_G_takeOrder 89 = .ok (.iload_n 2, 1) := by decide +kernel
theorem d_G_takeOrder_90 : decode b_G_takeOrder 90 = .ok (.iconst 1, 1) := by decide +kernel
theorem d_G_takeOrder_91 : decode b_G_takeOrder 91 = .ok (.iadd, 1) := by decide +kernel
theorem d_G_takeOrder_92 : decode b_G_takeOrder 92 = .ok (.if_icmp .gt 5, 3) := by decide +kernel
theorem d_G_takeOrder_95 : decode b_G_takeOrder 95 = .ok (.iconst (-1), 1) := by decide +kernel
theorem d_G_takeOrder_96 : decode b_G_takeOrder 96 = .ok (.ireturn, 1) := by decide +kernel
theorem d_G_takeOrder_97 : decode b_G_takeOrder 97 = .ok (.aload_n 0, 1) := by decide +kernel
theorem d_G_takeOrder_98 : decode b_G_takeOrder 98 = .ok (.getfield 42, 3) := by decide +kernel
theorem d_G_takeOrder_101 : decode b_G_takeOrder 101 = .ok (.iload_n 2, 1) := by decide +kernel
theorem d_G_takeOrder_102 : decode b_G_takeOrder 102 = .ok (.iconst 1, 1) := by decide +kernel
theorem d_G_takeOrder_103 : decode b_G_takeOrder 103 = .ok (.iadd, 1) := by decide +kernel
theorem d_G_takeOrder_104 : decode b_G_takeOrder 104 = .ok (.invokevirtual 274, 3) := by decide +kernel
theorem d_G_takeOrder_107 : decode b_G_takeOrder 107 = .ok (.aload_n 0, 1) := by decide +kernel
theorem d_G_takeOrder_108 : decode b_G_takeOrder 108 = .ok (.getfield 10, 3) := by decide +kernel
theorem d_G_takeOrder_111 : decode b_G_takeOrder 111 = .ok (.aload_n 0, 1) := by decide +kernel
theorem d_G_takeOrder_112 : decode b_G_takeOrder 112 = .ok (.getfield 60, 3) := by decide +kernel
theorem d_G_takeOrder_115 : decode b_G_takeOrder 115 = .ok (.getfield 258, 3) := by decide +kernel
theorem d_G_takeOrder_118 : decode b_G_takeOrder 118 = .ok (.invokevirtual 277, 3) := by decide +kernel
theorem d_G_takeOrder_121 : decode b_G_takeOrder 121 = .ok (.ireturn, 1) := by decide +kernel
theorem d_G_isJoin_0 : decode b_G_isJoin 0 = .ok (.iload_n 0, 1) := by decide +kernel
theorem d_G_isJoin_1 : decode b_G_isJoin 1 = .ok (.iconst 1, 1) := by decide +kernel
theorem d_G_isJoin_2 : decode b_G_isJoin 2 = .ok (.if_icmp .eq 9, 3) := by decide +kernel
theorem d_G_isJoin_5 : decode b_G_isJoin 5 = .ok (.iload_n 0, 1) := by decide +kernel
theorem d_G_isJoin_6 : decode b_G_isJoin 6 = .ok (.bipush 7, 2) := by decide +kernel
theorem d_G_isJoin_8 : decode b_G_isJoin 8 = .ok (.if_icmp .ne 7, 3) := by decide +kernel
theorem d_G_isJoin_11 : decode b_G_isJoin 11 = .ok (.iconst 1, 1) := by decide +kernel
theorem d_G_isJoin_12 : decode b_G_isJoin 12 = .ok (.goto 4, 3) := by decide +kernel
theorem d_G_isJoin_15 : decode b_G_isJoin 15 = .ok (.iconst 0, 1) := by decide +kernel
theorem d_G_isJoin_16 : decode b_G_isJoin 16 = .ok (.ireturn, 1) := by decide +kernel
theorem d_G_endsCommand_0 : decode b_G_endsCommand 0 = .ok (.aload_n 0, 1) := by decide +kernel
theorem d_G_endsCommand_1 : decode b_G_endsCommand 1 = .ok (.getfield 42, 3) := by decide +kernel
theorem d_G_endsCommand_4 : decode b_G_endsCommand 4 = .ok (.iload_n 1, 1) := by decide +kernel
theorem d_G_endsCommand_5 : decode b_G_endsCommand 5 = .ok (.invokevirtual 234, 3) := by decide +kernel
theorem d_G_endsCommand_8 : decode b_G_endsCommand 8 = .ok (.istore_n 2, 1) := by decide +kernel
theorem d_G_endsCommand_9 : decode b_G_endsCommand 9 = .ok (.iload_n 2, 1) := by decide +kernel
theorem d_G_endsCommand_10 : decode b_G_endsCommand 10 = .ok (.iconst 2, 1) := by decide +kernel
theorem d_G_endsCommand_11 : decode b_G_endsCommand 11 = .ok (.if_icmp .eq 31, 3) := by decide +kernel
theorem d_G_endsCommand_14 : decode b_G_endsCommand 14 = .ok (.iload_n 2, 1) := by decide +kernel
theorem d_G_endsCommand_15 : decode b_G_endsCommand 15 = .ok (.invokestatic 283, 3) := by decide +kernel
theorem d_G_endsCommand_18 : decode b_G_endsCommand 18 = .ok (.ifCond .eq 28, 3) := by decide +kernel
theorem d_G_endsCommand_21 : decode b_G_endsCommand 21 = .ok (.aload_n 0, 1) := by decide +kernel
theorem d_G_endsCommand_22 : decode b_G_endsCommand 22 = .ok (.getfield 19, 3) := by decide +kernel
theorem d_G_endsCommand_25 : decode b_G_endsCommand 25 = .ok (.aload_n 0, 1) := by decide +kernel
theorem d_G_endsCommand_26 : decode b_G_endsCommand 26 = .ok (.getfield 42, 3) := by decide +kernel
theorem d_G_endsCommand_29 : decode b_G_endsCommand 29 = .ok (.iload_n 1, 1) := by decide +kernel
theorem d_G_endsCommand_30 : decode b_G_endsCommand 30 = .ok (.iconst 1, 1) := by decide +kernel
theorem d_G_endsCommand_31 : decode b_G_endsCommand 31 = .ok (.iadd, 1) := by decide +kernel
theorem d_G_endsCommand_32 : decode b_G_endsCommand 32 = .ok (.invokevirtual 234, 3) := by decide +kernel
theorem d_G_endsCommand_35 : decode b_G_endsCommand 35 = .ok (.invokevirtual 192, 3) := by decide +kernel
theorem d_G_endsCommand_38 : decode b_G_endsCommand 38 = .ok (.iconst (-1), 1) := by decide +kernel
theorem d_G_endsCommand_39 : decode b_G_endsCommand 39 = .ok (.if_icmp .eq 7, 3) := by decide +kernel
theorem d_G_endsCommand_42 : decode b_G_endsCommand 42 = .ok (.iconst 1, 1) := by decide +kernel
theorem d_G_endsCommand_43 : decode b_G_endsCommand 43 = .ok (.goto 4, 3) := by decide +kernel
theorem d_G_endsCommand_46 : decode b_G_endsCommand 46 = .ok (.iconst 0, 1) := by decide +kernel
theorem d_G_endsCommand_47 : decode b_G_endsCommand 47 = .ok (.ireturn, 1) := by decide +kernel
theorem d_G_takeCommand_0 : decode b_G_takeCommand 0 = .ok (.aload_n 0, 1) := by decide +kernel
theorem d_G_takeCommand_1 : decode b_G_takeCommand 1 = .ok (.getfield 49, 3) := by decide +kernel
theorem d_G_takeCommand_4 : decode b_G_takeCommand 4 = .ok (.invokevirtual 167, 3) := by decide +kernel
theorem d_G_takeCommand_7 : decode b_G_takeCommand 7 = .ok (.iconst 0, 1) := by decide +kernel
theorem d_G_takeCommand_8 : decode b_G_takeCommand 8 = .ok (.istore_n 1, 1) := by decide +kernel
theorem d_G_takeCommand_9 : decode b_G_takeCommand 9 = .ok (.iload_n 1, 1) := by decide +kernel
theorem d_G_takeCommand_10 : decode b_G_takeCommand 10 = .ok (.aload_n 0, 1) := by decide +kernel
theorem d_G_takeCommand_11 : decode b_G_takeCommand 11 = .ok (.getfield 42, 3) := by decide +kernel
theorem d_G_takeCommand_14 : decode b_G_takeCommand 14 = .ok (.invokevirtual 162, 3) := by decide +kernel
theorem d_G_takeCommand_17 : decode b_G_takeCommand 17 = .ok (.if_icmp .ge 32, 3) := by decide +kernel
theorem d_G_takeCommand_20 : decode b_G_takeCommand 20 = .ok (.aload_n 0, 1) := by decide +kernel
theorem d_G_takeCommand_21 : decode b_G_takeCommand 21 = .ok (.iload_n 1, 1) := by decide +kernel
theorem d_G_takeCommand_22 : decode b_G_takeCommand 22 = .ok (.invokevirtual 280, 3) := by decide +kernel
theorem d_G_takeCommand_25 : decode b_G_takeCommand 25 = .ok (.ifCond .ne 24, 3) := by decide +kernel
theorem d_G_takeCommand_28 : decode b_G_takeCommand 28 = .ok (.aload_n 0, 1) := by decide +kernel
theorem d_G_takeCommand_29 : decode b_G_takeCommand 29 = .ok (.getfield 49, 3) := by decide +kernel
theorem d_G_takeCommand_32 : decode b_G_takeCommand 32 = .ok (.aload_n 0, 1) := by decide +kernel
theorem d_G_takeCommand_33 : decode b_G_takeCommand 33 = .ok (.getfield 42, 3) := by decide +kernel
theorem d_G_takeCommand_36 : decode b_G_takeCommand 36 = .ok (.iload_n 1, 1) := by decide +kernel
theorem d_G_takeCommand_37 : decode b_G_takeCommand 37 = .ok (.invokevirtual 234, 3) := by decide +kernel
theorem d_G_takeCommand_40 : decode b_G_takeCommand 40 = .ok (.invokevirtual 165, 3) := by decide +kernel
theorem d_G_takeCommand_43 : decode b_G_takeCommand 43 = .ok (.iinc 1 1, 3) := by decide +kernel
theorem d_G_takeCommand_46 : decode b_G_takeCommand 46 = .ok (.goto (-37), 3) := by decide +kernel
theorem d_G_takeCommand_49 : decode b_G_takeCommand 49 = .ok (.aload_n 0, 1) := by decide +kernel
theorem d_G_takeCommand_50 : decode b_G_takeCommand 50 = .ok (.getfield 42, 3) := by decide +kernel
theorem d_G_takeCommand_53 : decode b_G_takeCommand 53 = .ok (.iload_n 1, 1) := by decide +kernel
theorem d_G_takeCommand_54 : decode b_G_takeCommand 54 = .ok (.iconst 1, 1) := by decide +kernel
theorem d_G_takeCommand_55 : decode b_G_takeCommand 55 = .ok (.iadd, 1) := by decide +kernel
theorem d_G_takeCommand_56 : decode b_G_takeCommand 56 = .ok (.invokevirtual 274, 3) := by decide +kernel
theorem d_G_takeCommand_59 : decode b_G_takeCommand 59 = .ok (.return_, 1) := by decide +kernel
theorem d_Row_become_0 : decode b_Row_become 0 = .ok (.aload_n 0, 1) := by decide +kernel
theorem d_Row_become_1 : decode b_Row_become 1 = .ok (.invokevirtual 28, 3) := by decide +kernel
theorem d_Row_become_4 : decode b_Row_become 4 = .ok (.iconst 0, 1) := by decide +kernel
theorem d_Row_become_5 : decode b_Row_become 5 = .ok (.istore_n 2, 1) := by decide +kernel
theorem d_Row_become_6 : decode b_Row_become 6 = .ok (.iload_n 2, 1) := by decide +kernel
theorem d_Row_become_7 : decode b_Row_become 7 = .ok (.aload_n 1, 1) := by decide +kernel
theorem d_Row_become_8 : decode b_Row_become 8 = .ok (.getfield 21, 3) := by decide +kernel
theorem d_Row_become_11 : decode b_Row_become 11 = .ok (.if_icmp .ge 19, 3) := by decide +kernel
theorem d_Row_become_14 : decode b_Row_become 14 = .ok (.aload_n 0, 1) := by decide +kernel
theorem d_Row_become_15 : decode b_Row_become 15 = .ok (.aload_n 1, 1) := by decide +kernel
theorem d_Row_become_16 : decode b_Row_become 16 = .ok (.getfield 15, 3) := by decide +kernel
theorem d_Row_become_19 : decode b_Row_become 19 = .ok (.iload_n 2, 1) := by decide +kernel
theorem d_Row_become_20 : decode b_Row_become 20 = .ok (.iaload, 1) := by decide +kernel
theorem d_Row_become_21 : decode b_Row_become 21 = .ok (.invokevirtual 31, 3) := by decide +kernel
theorem d_Row_become_24 : decode b_Row_become 24 = .ok (.iinc 2 1, 3) := by decide +kernel
theorem d_Row_become_27 : decode b_Row_become 27 = .ok (.goto (-21), 3) := by decide +kernel
theorem d_Row_become_30 : decode b_Row_become 30 = .ok (.return_, 1) := by decide +kernel
theorem d_G_chooseCommand_0 : decode b_G_chooseCommand 0 = .ok (.aload_n 0, 1) := by decide +kernel
theorem d_G_chooseCommand_1 : decode b_G_chooseCommand 1 = .ok (.getfield 49, 3) := by decide +kernel
theorem d_G_chooseCommand_4 : decode b_G_chooseCommand 4 = .ok (.invokevirtual 162, 3) := by decide +kernel
theorem d_G_chooseCommand_7 : decode b_G_chooseCommand 7 = .ok (.iconst 1, 1) := by decide +kernel
theorem d_G_chooseCommand_8 : decode b_G_chooseCommand 8 = .ok (.if_icmp .ne 19, 3) := by decide +kernel
theorem d_G_chooseCommand_11 : decode b_G_chooseCommand 11 = .ok (.aload_n 0, 1) := by decide +kernel
theorem d_G_chooseCommand_12 : decode b_G_chooseCommand 12 = .ok (.getfield 49, 3) := by decide +kernel
theorem d_G_chooseCommand_15 : decode b_G_chooseCommand 15 = .ok (.iconst 0, 1) := by decide +kernel
theorem d_G_chooseCommand_16 : decode b_G_chooseCommand 16 = .ok (.invokevirtual 234, 3) := by decide +kernel
theorem d_G_chooseCommand_19 : decode b_G_chooseCommand 19 = .ok (.iconst 5, 1) := by decide +kernel
theorem d_G_chooseCommand_20 : decode b_G_chooseCommand 20 = .ok (.if_icmp .ne 7, 3) := by decide +kernel
theorem d_G_chooseCommand_23 : decode b_G_chooseCommand 23 = .ok (.iconst 1, 1) := by decide +kernel
theorem d_G_chooseCommand_24 : decode b_G_chooseCommand 24 = .ok (.goto 4, 3) := by decide +kernel
theorem d_G_chooseCommand_27 : decode b_G_chooseCommand 27 = .ok (.iconst 0, 1) := by decide +kernel
theorem d_G_chooseCommand_28 : decode b_G_chooseCommand 28 = .ok (.istore_n 2, 1) := by decide +kernel
theorem d_G_chooseCommand_29 : decode b_G_chooseCommand 29 = .ok (.aload_n 0, 1) := by decide +kernel
theorem d_G_chooseCommand_30 : decode b_G_chooseCommand 30 = .ok (.getfield 49, 3) := by decide +kernel
theorem d_G_chooseCommand_33 : decode b_G_chooseCommand 33 = .ok (.invokevirtual 162, 3) := by decide +kernel
theorem d_G_chooseCommand_36 : decode b_G_chooseCommand 36 = .ok (.iconst 2, 1) := by decide +kernel
theorem d_G_chooseCommand_37 : decode b_G_chooseCommand 37 = .ok (.if_icmp .ne 20, 3) := by decide +kernel
theorem d_G_chooseCommand_40 : decode b_G_chooseCommand 40 = .ok (.aload_n 0, 1) := by decide +kernel
theorem d_G_chooseCommand_41 : decode b_G_chooseCommand 41 = .ok (.getfield 49, 3) := by decide +kernel
theorem d_G_chooseCommand_44 : decode b_G_chooseCommand 44 = .ok (.iconst 0, 1) := by decide +kernel
theorem d_G_chooseCommand_45 : decode b_G_chooseCommand 45 = .ok (.invokevirtual 234, 3) := by decide +kernel
theorem d_G_chooseCommand_48 : decode b_G_chooseCommand 48 = .ok (.bipush 6, 2) := by decide +kernel
theorem d_G_chooseCommand_50 : decode b_G_chooseCommand 50 = .ok (.if_icmp .ne 7, 3) := by decide +kernel
theorem d_G_chooseCommand_53 : decode b_G_chooseCommand 53 = .ok (.iconst 1, 1) := by decide +kernel
theorem d_G_chooseCommand_54 : decode b_G_chooseCommand 54 = .ok (.goto 4, 3) := by decide +kernel
theorem d_G_chooseCommand_57 : decode b_G_chooseCommand 57 = .ok (.iconst 0, 1) := by decide +kernel
theorem d_G_chooseCommand_58 : decode b_G_chooseCommand 58 = .ok (.istore_n 3, 1) := by decide +kernel
theorem d_G_chooseCommand_59 : decode b_G_chooseCommand 59 = .ok (.iload_n 3, 1) := by decide +kernel
theorem d_G_chooseCommand_60 : decode b_G_chooseCommand 60 = .ok (.ifCond .eq 45, 3) := by decide +kernel
theorem d_G_chooseCommand_63 : decode b_G_chooseCommand 63 = .ok (.aload_n 0, 1) := by decide +kernel
theorem d_G_chooseCommand_64 : decode b_G_chooseCommand 64 = .ok (.getfield 46, 3) := by decide +kernel
theorem d_G_chooseCommand_67 : decode b_G_chooseCommand 67 = .ok (.aload_n 0, 1) := by decide +kernel
theorem d_G_chooseCommand_68 : decode b_G_chooseCommand 68 = .ok (.getfield 76, 3) := by decide +kernel
theorem d_G_chooseCommand_71 : decode b_G_chooseCommand 71 = .ok (.getfield 240, 3) := by decide +kernel
theorem d_G_chooseCommand_74 : decode b_G_chooseCommand 74 = .ok (.invokevirtual 234, 3) := by decide +kernel
theorem d_G_chooseCommand_77 : decode b_G_chooseCommand 77 = .ok (.iconst (-1), 1) := by decide +kernel
theorem d_G_chooseCommand_78 : decode b_G_chooseCommand 78 = .ok (.if_icmp .eq 27, 3) := by decide +kernel
theorem d_G_chooseCommand_81 : decode b_G_chooseCommand 81 = .ok (.aload_n 0, 1) := by decide +kernel
theorem d_G_chooseCommand_82 : decode b_G_chooseCommand 82 = .ok (.getfield 46, 3) := by decide +kernel
theorem d_G_chooseCommand_85 : decode b_G_chooseCommand 85 = .ok (.aload_n 0, 1) := by decide +kernel
theorem d_G_chooseCommand_86 : decode b_G_chooseCommand 86 = .ok (.getfield 76, 3) := by decide +kernel
theorem d_G_chooseCommand_89 : decode b_G_chooseCommand 89 = .ok (.getfield 240, 3) := by decide +kernel
theorem d_G_chooseCommand_92 : decode b_G_chooseCommand 92 = .ok (.aload_n 0, 1) := by decide +kernel
theorem d_G_chooseCommand_93 : decode b_G_chooseCommand 93 = .ok (.getfield 49, 3) := by decide +kernel
theorem d_G_chooseCommand_96 : decode b_G_chooseCommand 96 = .ok (.iconst 1, 1) := by decide +kernel
theorem d_G_chooseCommand_97 : decode b_G_chooseCommand 97 = .ok (.invokevirtual 234, 3) := by decide +kernel
theorem d_G_chooseCommand_100 : decode b_G_chooseCommand 100 = .ok (.invokevirtual 286, 3) := by decide +kernel
theorem d_G_chooseCommand_103 : decode b_G_chooseCommand 103 = .ok (.iconst 0, 1) := by decide +kernel
theorem d_G_chooseCommand_104 : decode b_G_chooseCommand 104 = .ok (.ireturn, 1) := by decide +kernel
theorem d_G_chooseCommand_105 : decode b_G_chooseCommand 105 = .ok (.iload_n 2, 1) := by decide +kernel
theorem d_G_chooseCommand_106 : decode b_G_chooseCommand 106 = .ok (.ifCond .eq 34, 3) := by decide +kernel
theorem d_G_chooseCommand_109 : decode b_G_chooseCommand 109 = .ok (.aload_n 0, 1) := by decide +kernel
theorem d_G_chooseCommand_110 : decode b_G_chooseCommand 110 = .ok (.getfield 52, 3) := by decide +kernel
theorem d_G_chooseCommand_113 : decode b_G_chooseCommand 113 = .ok (.invokevirtual 162, 3) := by decide +kernel
theorem d_G_chooseCommand_116 : decode b_G_chooseCommand 116 = .ok (.ifCond .le 24, 3) := by decide +kernel
theorem d_G_chooseCommand_119 : decode b_G_chooseCommand 119 = .ok (.aload_n 0, 1) := by decide +kernel
theorem d_G_chooseCommand_120 : decode b_G_chooseCommand 120 = .ok (.getfield 46, 3) := by decide +kernel
theorem d_G_chooseCommand_123 : decode b_G_chooseCommand 123 = .ok (.aload_n 0, 1) := by decide +kernel
theorem d_G_chooseCommand_124 : decode b_G_chooseCommand 124 = .ok (.getfield 52, 3) := by decide +kernel
theorem d_G_chooseCommand_127 : decode b_G_chooseCommand 127 = .ok (.invokevirtual 288, 3) := by decide +kernel
theorem d_G_chooseCommand_130 : decode b_G_chooseCommand 130 = .ok (.aload_n 0, 1) := by decide +kernel
theorem d_G_chooseCommand_131 : decode b_G_chooseCommand 131 = .ok (.aload_n 0, 1) := by decide +kernel
theorem d_G_chooseCommand_132 : decode b_G_chooseCommand 132 = .ok (.getfield 84, 3) := by decide +kernel
theorem d_G_chooseCommand_135 : decode b_G_chooseCommand 135 = .ok (.putfield 80, 3) := by decide +kernel
theorem d_G_chooseCommand_138 : decode b_G_chooseCommand 138 = .ok (.iconst 0, 1) := by decide +kernel
theorem d_G_chooseCommand_139 : decode b_G_chooseCommand 139 = .ok (.ireturn, 1) := by decide +kernel
theorem d_G_chooseCommand_140 : decode b_G_chooseCommand 140 = .ok (.aload_n 0, 1) := by decide +kernel
theorem d_G_chooseCommand_141 : decode b_G_chooseCommand 141 = .ok (.getfield 46, 3) := by decide +kernel
theorem d_G_chooseCommand_144 : decode b_G_chooseCommand 144 = .ok (.aload_n 0, 1) := by decide +kernel
theorem d_G_chooseCommand_145 : decode b_G_chooseCommand 145 = .ok (.getfield 49, 3) := by decide +kernel
theorem d_G_chooseCommand_148 : decode b_G_chooseCommand 148 = .ok (.invokevirtual 288, 3) := by decide +kernel
theorem d_G_chooseCommand_151 : decode b_G_chooseCommand 151 = .ok (.aload_n 0, 1) := by decide +kernel
theorem d_G_chooseCommand_152 : decode b_G_chooseCommand 152 = .ok (.iload_n 1, 1) := by decide +kernel
theorem d_G_chooseCommand_153 : decode b_G_chooseCommand 153 = .ok (.putfield 80, 3) := by decide +kernel
theorem d_G_chooseCommand_156 : decode b_G_chooseCommand 156 = .ok (.aload_n 0, 1) := by decide +kernel
theorem d_G_chooseCommand_157 : decode b_G_chooseCommand 157 = .ok (.getfield 49, 3) := by decide +kernel
theorem d_G_chooseCommand_160 : decode b_G_chooseCommand 160 = .ok (.invokevirtual 162, 3) := by decide +kernel
theorem d_G_chooseCommand_163 : decode b_G_chooseCommand 163 = .ok (.ifCond .ne 5, 3) := by decide +kernel
theorem d_G_chooseCommand_166 : decode b_G_chooseCommand 166 = .ok (.iconst 1, 1) := by decide +kernel
theorem d_G_chooseCommand_167 : decode b_G_chooseCommand 167 = .ok (.ireturn, 1) := by decide +kernel
theorem d_G_chooseCommand_168 : decode b_G_chooseCommand 168 = .ok (.iload_n 2, 1) := by decide +kernel
theorem d_G_chooseCommand_169 : decode b_G_chooseCommand 169 = .ok (.ifCond .eq 7, 3) := by decide +kernel
theorem d_G_chooseCommand_172 : decode b_G_chooseCommand 172 = .ok (.iconst 3, 1) := by decide +kernel
theorem d_G_chooseCommand_173 : decode b_G_chooseCommand 173 = .ok (.goto 12, 3) := by decide +kernel
theorem d_G_chooseCommand_176 : decode b_G_chooseCommand 176 = .ok (.iload_n 3, 1) := by decide +kernel
theorem d_G_chooseCommand_177 : decode b_G_chooseCommand 177 = .ok (.ifCond .eq 7, 3) := by decide +kernel
theorem d_G_chooseCommand_180 : decode b_G_chooseCommand 180 = .ok (.iconst 4, 1) := by decide +kernel
theorem d_G_chooseCommand_181 : decode b_G_chooseCommand 181 = .ok (.goto 4, 3) := by decide +kernel
theorem d_G_chooseCommand_184 : decode b_G_chooseCommand 184 = .ok (.iconst 0, 1) := by decide +kernel
theorem d_G_chooseCommand_185 : decode b_G_chooseCommand 185 = .ok (.ireturn, 1) := by decide +kernel
theorem d_Report_begin_0 : decode b_Report_begin 0 = .ok (.aload_n 0, 1) := by decide +kernel
theorem d_Report_begin_1 : decode b_Report_begin 1 = .ok (.getfield 14, 3) := by decide +kernel
theorem d_Report_begin_4 : decode b_Report_begin 4 = .ok (.invokevirtual 39, 3) := by decide +kernel
theorem d_Report_begin_7 : decode b_Report_begin 7 = .ok (.aload_n 0, 1) := by decide +kernel
theorem d_Report_begin_8 : decode b_Report_begin 8 = .ok (.getfield 20, 3) := by decide +kernel
theorem d_Report_begin_11 : decode b_Report_begin 11 = .ok (.invokevirtual 39, 3) := by decide +kernel
theorem d_Report_begin_14 : decode b_Report_begin 14 = .ok (.aload_n 0, 1) := by decide +kernel
theorem d_Report_begin_15 : decode b_Report_begin 15 = .ok (.getfield 23, 3) := by decide +kernel
theorem d_Report_begin_18 : decode b_Report_begin 18 = .ok (.invokevirtual 39, 3) := by decide +kernel
theorem d_Report_begin_21 : decode b_Report_begin 21 = .ok (.aload_n 0, 1) := by decide +kernel
theorem d_Report_begin_22 : decode b_Report_begin 22 = .ok (.getfield 26, 3) := by decide +kernel
theorem d_Report_begin_25 : decode b_Report_begin 25 = .ok (.invokevirtual 39, 3) := by decide +kernel
theorem d_Report_begin_28 : decode b_Report_begin 28 = .ok (.aload_n 0, 1) := by decide +kernel
theorem d_Report_begin_29 : decode b_Report_begin 29 = .ok (.iconst (-1), 1) := by decide +kernel
theorem d_Report_begin_30 : decode b_Report_begin 30 = .ok (.putfield 29, 3) := by decide +kernel
theorem d_Report_begin_33 : decode b_Report_begin 33 = .ok (.aload_n 0, 1) := by decide +kernel
theorem d_Report_begin_34 : decode b_Report_begin 34 = .ok (.iconst 0, 1) := by decide +kernel
theorem d_Report_begin_35 : decode b_Report_begin 35 = .ok (.putfield 42, 3) := by decide +kernel
theorem d_Report_begin_38 : decode b_Report_begin 38 = .ok (.aload_n 0, 1) := by decide +kernel
theorem d_Report_begin_39 : decode b_Report_begin 39 = .ok (.iconst (-1), 1) := by decide +kernel
theorem d_Report_begin_40 : decode b_Report_begin 40 = .ok (.putfield 33, 3) := by decide +kernel
theorem d_Report_begin_43 : decode b_Report_begin 43 = .ok (.aload_n 0, 1) := by decide +kernel
theorem d_Report_begin_44 : decode b_Report_begin 44 = .ok (.iconst (-1), 1) := by decide +kernel
theorem d_Report_begin_45 : decode b_Report_begin 45 = .ok (.putfield 36, 3) := by decide +kernel
theorem d_Report_begin_48 : decode b_Report_begin 48 = .ok (.return_, 1) := by decide +kernel
theorem d_Report_fail_0 : decode b_Report_fail 0 = .ok (.aload_n 0, 1) := by decide +kernel
theorem d_Report_fail_1 : decode b_Report_fail 1 = .ok (.iload_n 1, 1) := by decide +kernel
theorem d_Report_fail_2 : decode b_Report_fail 2 = .ok (.putfield 42, 3) := by decide +kernel
theorem d_Report_fail_5 : decode b_Report_fail 5 = .ok (.aload_n 0, 1) := by decide +kernel
theorem d_Report_fail_6 : decode b_Report_fail 6 = .ok (.iload_n 2, 1) := by decide +kernel
theorem d_Report_fail_7 : decode b_Report_fail 7 = .ok (.putfield 33, 3) := by decide +kernel
theorem d_Report_fail_10 : decode b_Report_fail 10 = .ok (.aload_n 0, 1) := by decide +kernel
theorem d_Report_fail_11 : decode b_Report_fail 11 = .ok (.iload_n 3, 1) := by decide +kernel
theorem d_Report_fail_12 : decode b_Report_fail 12 = .ok (.putfield 36, 3) := by decide +kernel
theorem d_Report_fail_15 : decode b_Report_fail 15 = .ok (.return_, 1) := by decide +kernel
theorem d_Lines_count_0 : decode b_Lines_count 0 = .ok (.aload_n 0, 1) := by decide +kernel
theorem d_Lines_count_1 : decode b_Lines_count 1 = .ok (.getfield 31, 3) := by decide +kernel
theorem d_Lines_count_4 : decode b_Lines_count 4 = .ok (.ireturn, 1) := by decide +kernel
theorem d_Report_isAsked_0 : decode b_Report_isAsked 0 = .ok (.aload_n 0, 1) := by decide +kernel
theorem d_Report_isAsked_1 : decode b_Report_isAsked 1 = .ok (.getfield 42, 3) := by decide +kernel
theorem d_Report_isAsked_4 : decode b_Report_isAsked 4 = .ok (.bipush 15, 2) := by decide +kernel
