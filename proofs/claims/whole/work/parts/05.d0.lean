theorem d_G_isPlainWord_0 : decode b_G_isPlainWord 0 = .ok (.iload_n 0, 1) := by decide +kernel
theorem d_G_isPlainWord_1 : decode b_G_isPlainWord 1 = .ok (.bipush 10, 2) := by decide +kernel
theorem d_G_isPlainWord_3 : decode b_G_isPlainWord 3 = .ok (.if_icmp .lt 14, 3) := by decide +kernel
theorem d_G_isPlainWord_6 : decode b_G_isPlainWord 6 = .ok (.iload_n 0, 1) := by decide +kernel
theorem d_G_isPlainWord_7 : decode b_G_isPlainWord 7 = .ok (.sipush 9999, 3) := by decide +kernel
theorem d_G_isPlainWord_10 : decode b_G_isPlainWord 10 = .ok (.if_icmp .gt 7, 3) := by decide +kernel
theorem d_G_isPlainWord_13 : decode b_G_isPlainWord 13 = .ok (.iconst 1, 1) := by decide +kernel
theorem d_G_isPlainWord_14 : decode b_G_isPlainWord 14 = .ok (.goto 4, 3) := by decide +kernel
theorem d_G_isPlainWord_17 : decode b_G_isPlainWord 17 = .ok (.iconst 0, 1) := by decide +kernel
theorem d_G_isPlainWord_18 : decode b_G_isPlainWord 18 = .ok (.ireturn, 1) := by decide +kernel
theorem d_Row_size_0 : decode b_Row_size 0 = .ok (.aload_n 0, 1) := by decide +kernel
theorem d_Row_size_1 : decode b_Row_size 1 = .ok (.getfield 21, 3) := by decide +kernel
theorem d_Row_size_4 : decode b_Row_size 4 = .ok (.ireturn, 1) := by decide +kernel
theorem d_Row_at_0 : decode b_Row_at 0 = .ok (.iload_n 1, 1) := by decide +kernel
theorem d_Row_at_1 : decode b_Row_at 1 = .ok (.ifCond .lt 20, 3) := by decide +kernel
theorem d_Row_at_4 : decode b_Row_at 4 = .ok (.iload_n 1, 1) := by decide +kernel
theorem d_Row_at_5 : decode b_Row_at 5 = .ok (.aload_n 0, 1) := by decide +kernel
theorem d_Row_at_6 : decode b_Row_at 6 = .ok (.getfield 21, 3) := by decide +kernel
theorem d_Row_at_9 : decode b_Row_at 9 = .ok (.if_icmp .ge 12, 3) := by decide +kernel
theorem d_Row_at_12 : decode b_Row_at 12 = .ok (.aload_n 0, 1) := by decide +kernel
theorem d_Row_at_13 : decode b_Row_at 13 = .ok (.getfield 15, 3) := by decide +kernel
theorem d_Row_at_16 : decode b_Row_at 16 = .ok (.iload_n 1, 1) := by decide +kernel
theorem d_Row_at_17 : decode b_Row_at 17 = .ok (.iaload, 1) := by decide +kernel
theorem d_Row_at_18 : decode b_Row_at 18 = .ok (.goto 4, 3) := by decide +kernel
theorem d_Row_at_21 : decode b_Row_at 21 = .ok (.iconst (-1), 1) := by decide +kernel
theorem d_Row_at_22 : decode b_Row_at 22 = .ok (.ireturn, 1) := by decide +kernel
theorem d_Verbs_find_0 : decode b_Verbs_find 0 = .ok (.iconst 0, 1) := by decide +kernel
theorem d_Verbs_find_1 : decode b_Verbs_find 1 = .ok (.istore_n 2, 1) := by decide +kernel
theorem d_Verbs_find_2 : decode b_Verbs_find 2 = .ok (.iload_n 2, 1) := by decide +kernel
theorem d_Verbs_find_3 : decode b_Verbs_find 3 = .ok (.aload_n 0, 1) := by decide +kernel
theorem d_Verbs_find_4 : decode b_Verbs_find 4 = .ok (.getfield 14, 3) := by decide +kernel
theorem d_Verbs_find_7 : decode b_Verbs_find 7 = .ok (.invokevirtual 27, 3) := by decide +kernel
theorem d_Verbs_find_10 : decode b_Verbs_find 10 = .ok (.if_icmp .ge 30, 3) := by decide +kernel
theorem d_Verbs_find_13 : decode b_Verbs_find 13 = .ok (.aload_n 0, 1) := by decide +kernel
theorem d_Verbs_find_14 : decode b_Verbs_find 14 = .ok (.getfield 14, 3) := by decide +kernel
theorem d_Verbs_find_17 : decode b_Verbs_find 17 = .ok (.iload_n 2, 1) := by decide +kernel
theorem d_Verbs_find_18 : decode b_Verbs_find 18 = .ok (.invokevirtual 38, 3) := by decide +kernel
theorem d_Verbs_find_21 : decode b_Verbs_find 21 = .ok (.iload_n 1, 1) := by decide +kernel
theorem d_Verbs_find_22 : decode b_Verbs_find 22 = .ok (.if_icmp .ne 12, 3) := by decide +kernel
theorem d_Verbs_find_25 : decode b_Verbs_find 25 = .ok (.aload_n 0, 1) := by decide +kernel
theorem d_Verbs_find_26 : decode b_Verbs_find 26 = .ok (.getfield 20, 3) := by decide +kernel
theorem d_Verbs_find_29 : decode b_Verbs_find 29 = .ok (.iload_n 2, 1) := by decide +kernel
theorem d_Verbs_find_30 : decode b_Verbs_find 30 = .ok (.invokevirtual 38, 3) := by decide +kernel
theorem d_Verbs_find_33 : decode b_Verbs_find 33 = .ok (.ireturn, 1) := by decide +kernel
theorem d_Verbs_find_34 : decode b_Verbs_find 34 = .ok (.iinc 2 1, 3) := by decide +kernel
theorem d_Verbs_find_37 : decode b_Verbs_find 37 = .ok (.goto (-35), 3) := by decide +kernel
theorem d_Verbs_find_40 : decode b_Verbs_find 40 = .ok (.iconst (-1), 1) := by decide +kernel
theorem d_Verbs_find_41 : decode b_Verbs_find 41 = .ok (.ireturn, 1) := by decide +kernel
theorem d_G_mayBeVerbWord_0 : decode b_G_mayBeVerbWord 0 = .ok (.iload_n 1, 1) := by decide +kernel
theorem d_G_mayBeVerbWord_1 : decode b_G_mayBeVerbWord 1 = .ok (.invokestatic 134, 3) := by decide +kernel
theorem d_G_mayBeVerbWord_4 : decode b_G_mayBeVerbWord 4 = .ok (.ifCond .eq 19, 3) := by decide +kernel
theorem d_G_mayBeVerbWord_7 : decode b_G_mayBeVerbWord 7 = .ok (.aload_n 0, 1) := by decide +kernel
theorem d_G_mayBeVerbWord_8 : decode b_G_mayBeVerbWord 8 = .ok (.getfield 19, 3) := by decide +kernel
theorem d_G_mayBeVerbWord_11 : decode b_G_mayBeVerbWord 11 = .ok (.iload_n 1, 1) := by decide +kernel
theorem d_G_mayBeVerbWord_12 : decode b_G_mayBeVerbWord 12 = .ok (.invokevirtual 192, 3) := by decide +kernel
theorem d_G_mayBeVerbWord_15 : decode b_G_mayBeVerbWord 15 = .ok (.iconst (-1), 1) := by decide +kernel
theorem d_G_mayBeVerbWord_16 : decode b_G_mayBeVerbWord 16 = .ok (.if_icmp .ne 7, 3) := by decide +kernel
theorem d_G_mayBeVerbWord_19 : decode b_G_mayBeVerbWord 19 = .ok (.iconst 1, 1) := by decide +kernel
theorem d_G_mayBeVerbWord_20 : decode b_G_mayBeVerbWord 20 = .ok (.goto 4, 3) := by decide +kernel
theorem d_G_mayBeVerbWord_23 : decode b_G_mayBeVerbWord 23 = .ok (.iconst 0, 1) := by decide +kernel
theorem d_G_mayBeVerbWord_24 : decode b_G_mayBeVerbWord 24 = .ok (.ireturn, 1) := by decide +kernel
theorem d_Verbs_isFull_0 : decode b_Verbs_isFull 0 = .ok (.aload_n 0, 1) := by decide +kernel
theorem d_Verbs_isFull_1 : decode b_Verbs_isFull 1 = .ok (.getfield 23, 3) := by decide +kernel
theorem d_Verbs_isFull_4 : decode b_Verbs_isFull 4 = .ok (.bipush 20, 2) := by decide +kernel
theorem d_Verbs_isFull_6 : decode b_Verbs_isFull 6 = .ok (.if_icmp .lt 7, 3) := by decide +kernel
theorem d_Verbs_isFull_9 : decode b_Verbs_isFull 9 = .ok (.iconst 1, 1) := by decide +kernel
theorem d_Verbs_isFull_10 : decode b_Verbs_isFull 10 = .ok (.goto 4, 3) := by decide +kernel
theorem d_Verbs_isFull_13 : decode b_Verbs_isFull 13 = .ok (.iconst 0, 1) := by decide +kernel
theorem d_Verbs_isFull_14 : decode b_Verbs_isFull 14 = .ok (.ireturn, 1) := by decide +kernel
theorem d_Verbs_hasAllWords_0 : decode b_Verbs_hasAllWords 0 = .ok (.aload_n 0, 1) := by decide +kernel
theorem d_Verbs_hasAllWords_1 : decode b_Verbs_hasAllWords 1 = .ok (.getfield 14, 3) := by decide +kernel
theorem d_Verbs_hasAllWords_4 : decode b_Verbs_hasAllWords 4 = .ok (.invokevirtual 27, 3) := by decide +kernel
theorem d_Verbs_hasAllWords_7 : decode b_Verbs_hasAllWords 7 = .ok (.bipush 60, 2) := by decide +kernel
theorem d_Verbs_hasAllWords_9 : decode b_Verbs_hasAllWords 9 = .ok (.if_icmp .lt 7, 3) := by decide +kernel
theorem d_Verbs_hasAllWords_12 : decode b_Verbs_hasAllWords 12 = .ok (.iconst 1, 1) := by decide +kernel
theorem d_Verbs_hasAllWords_13 : decode b_Verbs_hasAllWords 13 = .ok (.goto 4, 3) := by decide +kernel
theorem d_Verbs_hasAllWords_16 : decode b_Verbs_hasAllWords 16 = .ok (.iconst 0, 1) := by decide +kernel
theorem d_Verbs_hasAllWords_17 : decode b_Verbs_hasAllWords 17 = .ok (.ireturn, 1) := by decide +kernel
theorem d_Row_add_0 : decode b_Row_add 0 = .ok (.aload_n 0, 1) := by decide +kernel
theorem d_Row_add_1 : decode b_Row_add 1 = .ok (.getfield 21, 3) := by decide +kernel
theorem d_Row_add_4 : decode b_Row_add 4 = .ok (.ifCond .lt 35, 3) := by decide +kernel
theorem d_Row_add_7 : decode b_Row_add 7 = .ok (.aload_n 0, 1) := by decide +kernel
theorem d_Row_add_8 : decode b_Row_add 8 = .ok (.getfield 21, 3) := by decide +kernel
theorem d_Row_add_11 : decode b_Row_add 11 = .ok (.aload_n 0, 1) := by decide +kernel
theorem d_Row_add_12 : decode b_Row_add 12 = .ok (.getfield 15, 3) := by decide +kernel
theorem d_Row_add_15 : decode b_Row_add 15 = .ok (.arraylength, 1) := by decide +kernel
theorem d_Row_add_16 : decode b_Row_add 16 = .ok (.if_icmp .ge 23, 3) := by decide +kernel
theorem d_Row_add_19 : decode b_Row_add 19 = .ok (.aload_n 0, 1) := by decide +kernel
theorem d_Row_add_20 : decode b_Row_add 20 = .ok (.getfield 15, 3) := by decide +kernel
theorem d_Row_add_23 : decode b_Row_add 23 = .ok (.aload_n 0, 1) := by decide +kernel
theorem d_Row_add_24 : decode b_Row_add 24 = .ok (.getfield 21, 3) := by decide +kernel
theorem d_Row_add_27 : decode b_Row_add 27 = .ok (.iload_n 1, 1) := by decide +kernel
theorem d_Row_add_28 : decode b_Row_add 28 = .ok (.iastore, 1) := by decide +kernel
theorem d_Row_add_29 : decode b_Row_add 29 = .ok (.aload_n 0, 1) := by decide +kernel
theorem d_Row_add_30 : decode b_Row_add 30 = .ok (.dup, 1) := by decide +kernel
theorem d_Row_add_31 : decode b_Row_add 31 = .ok (.getfield 21, 3) := by decide +kernel
theorem d_Row_add_34 : decode b_Row_add 34 = .ok (.iconst 1, 1) := by decide +kernel
theorem d_Row_add_35 : decode b_Row_add 35 = .ok (.iadd, 1) := by decide +kernel
theorem d_Row_add_36 : decode b_Row_add 36 = .ok (.putfield 21, 3) := by decide +kernel
theorem d_Row_add_39 : decode b_Row_add 39 = .ok (.return_, 1) := by decide +kernel
theorem d_Verbs_addWord_0 : decode b_Verbs_addWord 0 = .ok (.aload_n 0, 1) := by decide +kernel
theorem d_Verbs_addWord_1 : decode b_Verbs_addWord 1 = .ok (.getfield 14, 3) := by decide +kernel
theorem d_Verbs_addWord_4 : decode b_Verbs_addWord 4 = .ok (.iload_n 2, 1) := by decide +kernel
theorem d_Verbs_addWord_5 : decode b_Verbs_addWord 5 = .ok (.invokevirtual 35, 3) := by decide +kernel
theorem d_Verbs_addWord_8 : decode b_Verbs_addWord 8 = .ok (.aload_n 0, 1) := by decide +kernel
theorem d_Verbs_addWord_9 : decode b_Verbs_addWord 9 = .ok (.getfield 20, 3) := by decide +kernel
theorem d_Verbs_addWord_12 : decode b_Verbs_addWord 12 = .ok (.iload_n 1, 1) := by decide +kernel
theorem d_Verbs_addWord_13 : decode b_Verbs_addWord 13 = .ok (.invokevirtual 35, 3) := by decide +kernel
theorem d_Verbs_addWord_16 : decode b_Verbs_addWord 16 = .ok (.iconst 0, 1) := by decide +kernel
theorem d_Verbs_addWord_17 : decode b_Verbs_addWord 17 = .ok (.istore_n 3, 1) := by decide +kernel
theorem d_Verbs_addWord_18 : decode b_Verbs_addWord 18 = .ok (.iconst 0, 1) := by decide +kernel
theorem d_Verbs_addWord_19 : decode b_Verbs_addWord 19 = .ok (.istore 4, 2) := by decide +kernel
theorem d_Verbs_addWord_21 : decode b_Verbs_addWord 21 = .ok (.iload 4, 2) := by decide +kernel
theorem d_Verbs_addWord_23 : decode b_Verbs_addWord 23 = .ok (.aload_n 0, 1) := by decide +kernel
theorem d_Verbs_addWord_24 : decode b_Verbs_addWord 24 = .ok (.getfield 20, 3) := by decide +kernel
theorem d_Verbs_addWord_27 : decode b_Verbs_addWord 27 = .ok (.invokevirtual 27, 3) := by decide +kernel
theorem d_Verbs_addWord_30 : decode b_Verbs_addWord 30 = .ok (.if_icmp .ge 25, 3) := by decide +kernel
theorem d_Verbs_addWord_33 : decode b_Verbs_addWord 33 = .ok (.aload_n 0, 1) := by decide +kernel
theorem d_Verbs_addWord_34 : decode b_Verbs_addWord 34 = .ok (.getfield 20, 3) := by decide +kernel
theorem d_Verbs_addWord_37 : decode b_Verbs_addWord 37 = .ok (.iload 4, 2) := by decide +kernel
theorem d_Verbs_addWord_39 : decode b_Verbs_addWord 39 = .ok (.invokevirtual 38, 3) := by decide +kernel
theorem d_Verbs_addWord_42 : decode b_Verbs_addWord 42 = .ok (.iload_n 1, 1) := by decide +kernel
theorem d_Verbs_addWord_43 : decode b_Verbs_addWord 43 = .ok (.if_icmp .ne 6, 3) := by decide +kernel
theorem d_Verbs_addWord_46 : decode b_Verbs_addWord 46 = .ok (.iinc 3 1, 3) := by decide +kernel
theorem d_Verbs_addWord_49 : decode b_Verbs_addWord 49 = .ok (.iinc 4 1, 3) := by decide +kernel
theorem d_Verbs_addWord_52 : decode b_Verbs_addWord 52 = .ok (.goto (-31), 3) := by decide +kernel
theorem d_Verbs_addWord_55 : decode b_Verbs_addWord 55 = .ok (.iload_n 3, 1) := by decide +kernel
theorem d_Verbs_addWord_56 : decode b_Verbs_addWord 56 = .ok (.ireturn, 1) := by decide +kernel
theorem d_Verbs_add_0 : decode b_Verbs_add 0 = .ok (.aload_n 0, 1) := by decide +kernel
theorem d_Verbs_add_1 : decode b_Verbs_add 1 = .ok (.dup, 1) := by decide +kernel
theorem d_Verbs_add_2 : decode b_Verbs_add 2 = .ok (.getfield 23, 3) := by decide +kernel
theorem d_Verbs_add_5 : decode b_Verbs_add 5 = .ok (.iconst 1, 1) := by decide +kernel
theorem d_Verbs_add_6 : decode b_Verbs_add 6 = .ok (.iadd, 1) := by decide +kernel
theorem d_Verbs_add_7 : decode b_Verbs_add 7 = .ok (.putfield 23, 3) := by decide +kernel
theorem d_Verbs_add_10 : decode b_Verbs_add 10 = .ok (.aload_n 0, 1) := by decide +kernel
theorem d_Verbs_add_11 : decode b_Verbs_add 11 = .ok (.aload_n 0, 1) := by decide +kernel
theorem d_Verbs_add_12 : decode b_Verbs_add 12 = .ok (.getfield 23, 3) := by decide +kernel
theorem d_Verbs_add_15 : decode b_Verbs_add 15 = .ok (.iconst 1, 1) := by decide +kernel
theorem d_Verbs_add_16 : decode b_Verbs_add 16 = .ok (.isub, 1) := by decide +kernel
theorem d_Verbs_add_17 : decode b_Verbs_add 17 = .ok (.iload_n 1, 1) := by decide +kernel
theorem d_Verbs_add_18 : decode b_Verbs_add 18 = .ok (.invokevirtual 31, 3) := by decide +kernel
theorem d_Verbs_add_21 : decode b_Verbs_add 21 = .ok (.pop, 1) := by decide +kernel
theorem d_Verbs_add_22 : decode b_Verbs_add 22 = .ok (.aload_n 0, 1) := by decide +kernel
theorem d_Verbs_add_23 : decode b_Verbs_add 23 = .ok (.getfield 23, 3) := by decide +kernel
theorem d_Verbs_add_26 : decode b_Verbs_add 26 = .ok (.iconst 1, 1) := by decide +kernel
theorem d_Verbs_add_27 : decode b_Verbs_add 27 = .ok (.isub, 1) := by decide +kernel
theorem d_Verbs_add_28 : decode b_Verbs_add 28 = .ok (.ireturn, 1) := by decide +kernel
theorem d_G_verb_0 : decode b_G_verb 0 = .ok (.aload_n 0, 1) := by decide +kernel
theorem d_G_verb_1 : decode b_G_verb 1 = .ok (.iload_n 1, 1) := by decide +kernel
theorem d_G_verb_2 : decode b_G_verb 2 = .ok (.invokevirtual 87, 3) := by decide +kernel
theorem d_G_verb_5 : decode b_G_verb 5 = .ok (.ifCond .ne 6, 3) := by decide +kernel
theorem d_G_verb_8 : decode b_G_verb 8 = .ok (.bipush (-102), 2) := by decide +kernel
theorem d_G_verb_10 : decode b_G_verb 10 = .ok (.ireturn, 1) := by decide +kernel
theorem d_G_verb_11 : decode b_G_verb 11 = .ok (.aload_n 0, 1) := by decide +kernel
theorem d_G_verb_12 : decode b_G_verb 12 = .ok (.getfield 19, 3) := by decide +kernel
theorem d_G_verb_15 : decode b_G_verb 15 = .ok (.invokevirtual 91, 3) := by decide +kernel
theorem d_G_verb_18 : decode b_G_verb 18 = .ok (.ifCond .ne 13, 3) := by decide +kernel
theorem d_G_verb_21 : decode b_G_verb 21 = .ok (.aload_n 0, 1) := by decide +kernel
theorem d_G_verb_22 : decode b_G_verb 22 = .ok (.getfield 19, 3) := by decide +kernel
theorem d_G_verb_25 : decode b_G_verb 25 = .ok (.invokevirtual 95, 3) := by decide +kernel
theorem d_G_verb_28 : decode b_G_verb 28 = .ok (.ifCond .eq 6, 3) := by decide +kernel
theorem d_G_verb_31 : decode b_G_verb 31 = .ok (.bipush (-104), 2) := by decide +kernel
theorem d_G_verb_33 : decode b_G_verb 33 = .ok (.ireturn, 1) := by decide +kernel
theorem d_G_verb_34 : decode b_G_verb 34 = .ok (.aload_n 0, 1) := by decide +kernel
theorem d_G_verb_35 : decode b_G_verb 35 = .ok (.getfield 19, 3) := by decide +kernel
theorem d_G_verb_38 : decode b_G_verb 38 = .ok (.iload_n 1, 1) := by decide +kernel
theorem d_G_verb_39 : decode b_G_verb 39 = .ok (.invokevirtual 98, 3) := by decide +kernel
theorem d_G_verb_42 : decode b_G_verb 42 = .ok (.ireturn, 1) := by decide +kernel
theorem d_Verbs_has_0 : decode b_Verbs_has 0 = .ok (.iload_n 1, 1) := by decide +kernel
theorem d_Verbs_has_1 : decode b_Verbs_has 1 = .ok (.ifCond .lt 15, 3) := by decide +kernel
theorem d_Verbs_has_4 : decode b_Verbs_has 4 = .ok (.iload_n 1, 1) := by decide +kernel
theorem d_Verbs_has_5 : decode b_Verbs_has 5 = .ok (.aload_n 0, 1) := by decide +kernel
theorem d_Verbs_has_6 : decode b_Verbs_has 6 = .ok (.getfield 23, 3) := by decide +kernel
theorem d_Verbs_has_9 : decode b_Verbs_has 9 = .ok (.if_icmp .ge 7, 3) := by decide +kernel
theorem d_Verbs_has_12 : decode b_Verbs_has 12 = .ok (.iconst 1, 1) := by decide +kernel
theorem d_Verbs_has_13 : decode b_Verbs_has 13 = .ok (.goto 4, 3) := by decide +kernel
theorem d_Verbs_has_16 : decode b_Verbs_has 16 = .ok (.iconst 0, 1) := by decide +kernel
theorem d_Verbs_has_17 : decode b_Verbs_has 17 = .ok (.ireturn, 1) := by decide +kernel
theorem d_G_like_0 : decode b_G_like 0 = .ok (.aload_n 0, 1) := by decide +kernel
theorem d_G_like_1 : decode b_G_like 1 = .ok (.getfield 19, 3) := by decide +kernel
theorem d_G_like_4 : decode b_G_like 4 = .ok (.iload_n 1, 1) := by decide +kernel
theorem d_G_like_5 : decode b_G_like 5 = .ok (.invokevirtual 102, 3) := by decide +kernel
theorem d_G_like_8 : decode b_G_like 8 = .ok (.ifCond .ne 6, 3) := by decide +kernel
theorem d_G_like_11 : decode b_G_like 11 = .ok (.bipush (-101), 2) := by decide +kernel
theorem d_G_like_13 : decode b_G_like 13 = .ok (.ireturn, 1) := by decide +kernel
theorem d_G_like_14 : decode b_G_like 14 = .ok (.aload_n 0, 1) := by decide +kernel
theorem d_G_like_15 : decode b_G_like 15 = .ok (.iload_n 2, 1) := by decide +kernel
theorem d_G_like_16 : decode b_G_like 16 = .ok (.invokevirtual 87, 3) := by decide +kernel
theorem d_G_like_19 : decode b_G_like 19 = .ok (.ifCond .ne 6, 3) := by decide +kernel
theorem d_G_like_22 : decode b_G_like 22 = .ok (.bipush (-102), 2) := by decide +kernel
theorem d_G_like_24 : decode b_G_like 24 = .ok (.ireturn, 1) := by decide +kernel
theorem d_G_like_25 : decode b_G_like 25 = .ok (.aload_n 0, 1) := by decide +kernel
theorem d_G_like_26 : decode b_G_like 26 = .ok (.getfield 19, 3) := by decide +kernel
theorem d_G_like_29 : decode b_G_like 29 = .ok (.invokevirtual 95, 3) := by decide +kernel
theorem d_G_like_32 : decode b_G_like 32 = .ok (.ifCond .eq 6, 3) := by decide +kernel
theorem d_G_like_35 : decode b_G_like 35 = .ok (.bipush (-104), 2) := by decide +kernel
theorem d_G_like_37 : decode b_G_like 37 = .ok (.ireturn, 1) := by decide +kernel
theorem d_G_like_38 : decode b_G_like 38 = .ok (.aload_n 0, 1) := by decide +kernel
theorem d_G_like_39 : decode b_G_like 39 = .ok (.getfield 19, 3) := by decide +kernel
theorem d_G_like_42 : decode b_G_like 42 = .ok (.iload_n 1, 1) := by decide +kernel
theorem d_G_like_43 : decode b_G_like 43 = .ok (.iload_n 2, 1) := by decide +kernel
theorem d_G_like_44 : decode b_G_like 44 = .ok (.invokevirtual 105, 3) := by decide +kernel
theorem d_G_like_47 : decode b_G_like 47 = .ok (.ireturn, 1) := by decide +kernel
theorem d_Lines_isFull_0 : decode b_Lines_isFull 0 = .ok (.aload_n 0, 1) := by decide +kernel
theorem d_Lines_isFull_1 : decode b_Lines_isFull 1 = .ok (.getfield 31, 3) := by decide +kernel
theorem d_Lines_isFull_4 : decode b_Lines_isFull 4 = .ok (.bipush 60, 2) := by decide +kernel
theorem d_Lines_isFull_6 : decode b_Lines_isFull 6 = .ok (.if_icmp .lt 7, 3) := by decide +kernel
theorem d_Lines_isFull_9 : decode b_Lines_isFull 9 = .ok (.iconst 1, 1) := by decide +kernel
theorem d_Lines_isFull_10 : decode b_Lines_isFull 10 = .ok (.goto 4, 3) := by decide +kernel
theorem d_Lines_isFull_13 : decode b_Lines_isFull 13 = .ok (.iconst 0, 1) := by decide +kernel
theorem d_Lines_isFull_14 : decode b_Lines_isFull 14 = .ok (.ireturn, 1) := by decide +kernel
theorem d_Lines_add_0 : decode b_Lines_add 0 = .ok (.aload_n 0, 1) := by decide +kernel
theorem d_Lines_add_1 : decode b_Lines_add 1 = .ok (.invokevirtual 35, 3) := by decide +kernel
theorem d_Lines_add_4 : decode b_Lines_add 4 = .ok (.ifCond .eq 5, 3) := by decide +kernel
theorem d_Lines_add_7 : decode b_Lines_add 7 = .ok (.iconst (-1), 1) := by decide +kernel
theorem d_Lines_add_8 : decode b_Lines_add 8 = .ok (.ireturn, 1) := by decide +kernel
theorem d_Lines_add_9 : decode b_Lines_add 9 = .ok (.aload_n 0, 1) := by decide +kernel
theorem d_Lines_add_10 : decode b_Lines_add 10 = .ok (.getfield 9, 3) := by decide +kernel
theorem d_Lines_add_13 : decode b_Lines_add 13 = .ok (.aload_n 0, 1) := by decide +kernel
theorem d_Lines_add_14 : decode b_Lines_add 14 = .ok (.getfield 31, 3) := by decide +kernel
theorem d_Lines_add_17 : decode b_Lines_add 17 = .ok (.iload_n 1, 1) := by decide +kernel
theorem d_Lines_add_18 : decode b_Lines_add 18 = .ok (.iastore, 1) := by decide +kernel
theorem d_Lines_add_19 : decode b_Lines_add 19 = .ok (.aload_n 0, 1) := by decide +kernel
theorem d_Lines_add_20 : decode b_Lines_add 20 = .ok (.getfield 15, 3) := by decide +kernel
theorem d_Lines_add_23 : decode b_Lines_add 23 = .ok (.aload_n 0, 1) := by decide +kernel
theorem d_Lines_add_24 : decode b_Lines_add 24 = .ok (.getfield 31, 3) := by decide +kernel
theorem d_Lines_add_27 : decode b_Lines_add 27 = .ok (.iload_n 2, 1) := by decide +kernel
theorem d_Lines_add_28 : decode b_Lines_add 28 = .ok (.iastore, 1) := by decide +kernel
theorem d_Lines_add_29 : decode b_Lines_add 29 = .ok (.aload_n 0, 1) := by decide +kernel
theorem d_Lines_add_30 : decode b_Lines_add 30 = .ok (.getfield 18, 3) := by decide +kernel
theorem d_Lines_add_33 : decode b_Lines_add 33 = .ok (.aload_n 0, 1) := by decide +kernel
theorem d_Lines_add_34 : decode b_Lines_add 34 = .ok (.getfield 31, 3) := by decide +kernel
theorem d_Lines_add_37 : decode b_Lines_add 37 = .ok (.iload_n 3, 1) := by decide +kernel
theorem d_Lines_add_38 : decode b_Lines_add 38 = .ok (.bastore, 1) := by decide +kernel
theorem d_Lines_add_39 : decode b_Lines_add 39 = .ok (.aload_n 0, 1) := by decide +kernel
theorem d_Lines_add_40 : decode b_Lines_add 40 = .ok (.dup, 1) := by decide +kernel
theorem d_Lines_add_41 : decode b_Lines_add 41 = .ok (.getfield 31, 3) := by decide +kernel
theorem d_Lines_add_44 : decode b_Lines_add 44 = .ok (.iconst 1, 1) := by decide +kernel
theorem d_Lines_add_45 : decode b_Lines_add 45 = .ok (.iadd, 1) := by decide +kernel
theorem d_Lines_add_46 : decode b_Lines_add 46 = .ok (.putfield 31, 3) := by decide +kernel
theorem d_Lines_add_49 : decode b_Lines_add 49 = .ok (.aload_n 0, 1) := by decide +kernel
theorem d_Lines_add_50 : decode b_Lines_add 50 = .ok (.getfield 31, 3) := by decide +kernel
theorem d_Lines_add_53 : decode b_Lines_add 53 = .ok (.iconst 1, 1) := by decide +kernel
theorem d_Lines_add_54 : decode b_Lines_add 54 = .ok (.isub, 1) := by decide +kernel
theorem d_Lines_add_55 : decode b_Lines_add 55 = .ok (.ireturn, 1) := by decide +kernel
theorem d_G_line_0 : decode b_G_line 0 = .ok (.aload_n 0, 1) := by decide +kernel
theorem d_G_line_1 : decode b_G_line 1 = .ok (.getfield 19, 3) := by decide +kernel
theorem d_G_line_4 : decode b_G_line 4 = .ok (.iload_n 1, 1) := by decide +kernel
theorem d_G_line_5 : decode b_G_line 5 = .ok (.invokevirtual 102, 3) := by decide +kernel
theorem d_G_line_8 : decode b_G_line 8 = .ok (.ifCond .ne 6, 3) := by decide +kernel
theorem d_G_line_11 : decode b_G_line 11 = .ok (.bipush (-101), 2) := by decide +kernel
theorem d_G_line_13 : decode b_G_line 13 = .ok (.ireturn, 1) := by decide +kernel
theorem d_G_line_14 : decode b_G_line 14 = .ok (.iload_n 2, 1) := by decide +kernel
theorem d_G_line_15 : decode b_G_line 15 = .ok (.iconst 1, 1) := by decide +kernel
theorem d_G_line_16 : decode b_G_line 16 = .ok (.if_icmp .lt 10, 3) := by decide +kernel
theorem d_G_line_19 : decode b_G_line 19 = .ok (.iload_n 2, 1) := by decide +kernel
theorem d_G_line_20 : decode b_G_line 20 = .ok (.sipush 9999, 3) := by decide +kernel
theorem d_G_line_23 : decode b_G_line 23 = .ok (.if_icmp .le 6, 3) := by decide +kernel
theorem d_G_line_26 : decode b_G_line 26 = .ok (.bipush (-102), 2) := by decide +kernel
theorem d_G_line_28 : decode b_G_line 28 = .ok (.ireturn, 1) := by decide +kernel
theorem d_G_line_29 : decode b_G_line 29 = .ok (.aload_n 0, 1) := by decide +kernel
theorem d_G_line_30 : decode b_G_line 30 = .ok (.getfield 26, 3) := by decide +kernel
theorem d_G_line_33 : decode b_G_line 33 = .ok (.invokevirtual 109, 3) := by decide +kernel
theorem d_G_line_36 : decode b_G_line 36 = .ok (.ifCond .eq 6, 3) := by decide +kernel
theorem d_G_line_39 : decode b_G_line 39 = .ok (.bipush (-104), 2) := by decide +kernel
theorem d_G_line_41 : decode b_G_line 41 = .ok (.ireturn, 1) := by decide +kernel
theorem d_G_line_42 : decode b_G_line 42 = .ok (.aload_n 0, 1) := by decide +kernel
theorem d_G_line_43 : decode b_G_line 43 = .ok (.getfield 26, 3) := by decide +kernel
theorem d_G_line_46 : decode b_G_line 46 = .ok (.iload_n 1, 1) := by decide +kernel
theorem d_G_line_47 : decode b_G_line 47 = .ok (.iload_n 2, 1) := by decide +kernel
theorem d_G_line_48 : decode b_G_line 48 = .ok (.iload_n 3, 1) := by decide +kernel
theorem d_G_line_49 : decode b_G_line 49 = .ok (.invokevirtual 110, 3) := by decide +kernel
theorem d_G_line_52 : decode b_G_line 52 = .ok (.ireturn, 1) := by decide +kernel
theorem d_Lines_has_0 : decode b_Lines_has 0 = .ok (.iload_n 1, 1) := by decide +kernel
theorem d_Lines_has_1 : decode b_Lines_has 1 = .ok (.ifCond .lt 15, 3) := by decide +kernel
theorem d_Lines_has_4 : decode b_Lines_has 4 = .ok (.iload_n 1, 1) := by decide +kernel
theorem d_Lines_has_5 : decode b_Lines_has 5 = .ok (.aload_n 0, 1) := by decide +kernel
theorem d_Lines_has_6 : decode b_Lines_has 6 = .ok (.getfield 31, 3) := by decide +kernel
theorem d_Lines_has_9 : decode b_Lines_has 9 = .ok (.if_icmp .ge 7, 3) := by decide +kernel
theorem d_Lines_has_12 : decode b_Lines_has 12 = .ok (.iconst 1, 1) := by decide +kernel
theorem d_Lines_has_13 : decode b_Lines_has 13 = .ok (.goto 4, 3) := by decide +kernel
theorem d_Lines_has_16 : decode b_Lines_has 16 = .ok (.iconst 0, 1) := by decide +kernel
theorem d_Lines_has_17 : decode b_Lines_has 17 = .ok (.ireturn, 1) := by decide +kernel
theorem d_G_mayBeToken_0 : decode b_G_mayBeToken 0 = .ok (.iload_n 0, 1) := by decide +kernel
theorem d_G_mayBeToken_1 : decode b_G_mayBeToken 1 = .ok (.ifCond .lt 9, 3) := by decide +kernel
theorem d_G_mayBeToken_4 : decode b_G_mayBeToken 4 = .ok (.iload_n 0, 1) := by decide +kernel
theorem d_G_mayBeToken_5 : decode b_G_mayBeToken 5 = .ok (.bipush 11, 2) := by decide +kernel
theorem d_G_mayBeToken_7 : decode b_G_mayBeToken 7 = .ok (.if_icmp .le 5, 3) := by decide +kernel
theorem d_G_mayBeToken_10 : decode b_G_mayBeToken 10 = .ok (.iconst 0, 1) := by decide +kernel
theorem d_G_mayBeToken_11 : decode b_G_mayBeToken 11 = .ok (.ireturn, 1) := by decide +kernel
theorem d_G_mayBeToken_12 : decode b_G_mayBeToken 12 = .ok (.iload_n 0, 1) := by decide +kernel
theorem d_G_mayBeToken_13 : decode b_G_mayBeToken 13 = .ok (.ifCond .eq 8, 3) := by decide +kernel
theorem d_G_mayBeToken_16 : decode b_G_mayBeToken 16 = .ok (.iload_n 0, 1) := by decide +kernel
theorem d_G_mayBeToken_17 : decode b_G_mayBeToken 17 = .ok (.iconst 1, 1) := by decide +kernel
theorem d_G_mayBeToken_18 : decode b_G_mayBeToken 18 = .ok (.if_icmp .ne 8, 3) := by decide +kernel
theorem d_G_mayBeToken_21 : decode b_G_mayBeToken 21 = .ok (.iload_n 1, 1) := by decide +kernel
theorem d_G_mayBeToken_22 : decode b_G_mayBeToken 22 = .ok (.invokestatic 134, 3) := by decide +kernel
theorem d_G_mayBeToken_25 : decode b_G_mayBeToken 25 = .ok (.ireturn, 1) := by decide +kernel
theorem d_G_mayBeToken_26 : decode b_G_mayBeToken 26 = .ok (.iload_n 0, 1) := by decide +kernel
theorem d_G_mayBeToken_27 : decode b_G_mayBeToken 27 = .ok (.bipush 11, 2) := by decide +kernel
theorem d_G_mayBeToken_29 : decode b_G_mayBeToken 29 = .ok (.if_icmp .ne 13, 3) := by decide +kernel
theorem d_G_mayBeToken_32 : decode b_G_mayBeToken 32 = .ok (.iload_n 1, 1) := by decide +kernel
theorem d_G_mayBeToken_33 : decode b_G_mayBeToken 33 = .ok (.ifCond .lt 13, 3) := by decide +kernel
theorem d_G_mayBeToken_36 : decode b_G_mayBeToken 36 = .ok (.iload_n 1, 1) := by decide +kernel
theorem d_G_mayBeToken_37 : decode b_G_mayBeToken 37 = .ok (.bipush 9, 2) := by decide +kernel
theorem d_G_mayBeToken_39 : decode b_G_mayBeToken 39 = .ok (.if_icmp .gt 7, 3) := by decide +kernel
theorem d_G_mayBeToken_42 : decode b_G_mayBeToken 42 = .ok (.iconst 1, 1) := by decide +kernel
theorem d_G_mayBeToken_43 : decode b_G_mayBeToken 43 = .ok (.goto 4, 3) := by decide +kernel
theorem d_G_mayBeToken_46 : decode b_G_mayBeToken 46 = .ok (.iconst 0, 1) := by decide +kernel
theorem d_G_mayBeToken_47 : decode b_G_mayBeToken 47 = .ok (.ireturn, 1) := by decide +kernel
theorem d_Lines_kindsOf_0 : decode b_Lines_kindsOf 0 = .ok (.aload_n 0, 1) := by decide +kernel
theorem d_Lines_kindsOf_1 : decode b_Lines_kindsOf 1 = .ok (.iload_n 1, 1) := by decide +kernel
theorem d_Lines_kindsOf_2 : decode b_Lines_kindsOf 2 = .ok (.invokevirtual 39, 3) := by decide +kernel
theorem d_Lines_kindsOf_5 : decode b_Lines_kindsOf 5 = .ok (.ifCond .eq 12, 3) := by decide +kernel
theorem d_Lines_kindsOf_8 : decode b_Lines_kindsOf 8 = .ok (.aload_n 0, 1) := by decide +kernel
theorem d_Lines_kindsOf_9 : decode b_Lines_kindsOf 9 = .ok (.getfield 22, 3) := by decide +kernel
theorem d_Lines_kindsOf_12 : decode b_Lines_kindsOf 12 = .ok (.iload_n 1, 1) := by decide +kernel
theorem d_Lines_kindsOf_13 : decode b_Lines_kindsOf 13 = .ok (.iaload, 1) := by decide +kernel
theorem d_Lines_kindsOf_14 : decode b_Lines_kindsOf 14 = .ok (.goto 4, 3) := by decide +kernel
theorem d_Lines_kindsOf_17 : decode b_Lines_kindsOf 17 = .ok (.iconst 0, 1) := by decide +kernel
theorem d_Lines_kindsOf_18 : decode b_Lines_kindsOf 18 = .ok (.ireturn, 1) := by decide +kernel
theorem d_Lines_kindAt_0 : decode b_Lines_kindAt 0 = .ok (.aload_n 0, 1) := by decide +kernel
theorem d_Lines_kindAt_1 : decode b_Lines_kindAt 1 = .ok (.iload_n 1, 1) := by decide +kernel
theorem d_Lines_kindAt_2 : decode b_Lines_kindAt 2 = .ok (.invokevirtual 39, 3) := by decide +kernel
theorem d_Lines_kindAt_5 : decode b_Lines_kindAt 5 = .ok (.ifCond .eq 31, 3) := by decide +kernel
theorem d_Lines_kindAt_8 : decode b_Lines_kindAt 8 = .ok (.iload_n 2, 1) := by decide +kernel
theorem d_Lines_kindAt_9 : decode b_Lines_kindAt 9 = .ok (.ifCond .lt 27, 3) := by decide +kernel
theorem d_Lines_kindAt_12 : decode b_Lines_kindAt 12 = .ok (.iload_n 2, 1) := by decide +kernel
theorem d_Lines_kindAt_13 : decode b_Lines_kindAt 13 = .ok (.aload_n 0, 1) := by decide +kernel
theorem d_Lines_kindAt_14 : decode b_Lines_kindAt 14 = .ok (.getfield 22, 3) := by decide +kernel
theorem d_Lines_kindAt_17 : decode b_Lines_kindAt 17 = .ok (.iload_n 1, 1) := by decide +kernel
theorem d_Lines_kindAt_18 : decode b_Lines_kindAt 18 = .ok (.iaload, 1) := by decide +kernel
theorem d_Lines_kindAt_19 : decode b_Lines_kindAt 19 = .ok (.if_icmp .ge 17, 3) := by decide +kernel
theorem d_Lines_kindAt_22 : decode b_Lines_kindAt 22 = .ok (.aload_n 0, 1) := by decide +kernel
theorem d_Lines_kindAt_23 : decode b_Lines_kindAt 23 = .ok (.getfield 25, 3) := by decide +kernel
theorem d_Lines_kindAt_26 : decode b_Lines_kindAt 26 = .ok (.iload_n 1, 1) := by decide +kernel
theorem d_Lines_kindAt_27 : decode b_Lines_kindAt 27 = .ok (.bipush 8, 2) := by decide +kernel
theorem d_Lines_kindAt_29 : decode b_Lines_kindAt 29 = .ok (.imul, 1) := by decide +kernel
theorem d_Lines_kindAt_30 : decode b_Lines_kindAt 30 = .ok (.iload_n 2, 1) := by decide +kernel
theorem d_Lines_kindAt_31 : decode b_Lines_kindAt 31 = .ok (.iadd, 1) := by decide +kernel
theorem d_Lines_kindAt_32 : decode b_Lines_kindAt 32 = .ok (.iaload, 1) := by decide +kernel
theorem d_Lines_kindAt_33 : decode b_Lines_kindAt 33 = .ok (.goto 4, 3) := by decide +kernel
theorem d_Lines_kindAt_36 : decode b_Lines_kindAt 36 = .ok (.iconst (-1), 1) := by decide +kernel
theorem d_Lines_kindAt_37 : decode b_Lines_kindAt 37 = .ok (.ireturn, 1) := by decide +kernel
theorem d_G_isSlot_0 : decode b_G_isSlot 0 = .ok (.iload_n 0, 1) := by decide +kernel
theorem d_G_isSlot_1 : decode b_G_isSlot 1 = .ok (.iconst 2, 1) := by decide +kernel
theorem d_G_isSlot_2 : decode b_G_isSlot 2 = .ok (.if_icmp .lt 13, 3) := by decide +kernel
theorem d_G_isSlot_5 : decode b_G_isSlot 5 = .ok (.iload_n 0, 1) := by decide +kernel
theorem d_G_isSlot_6 : decode b_G_isSlot 6 = .ok (.bipush 11, 2) := by decide +kernel
theorem d_G_isSlot_8 : decode b_G_isSlot 8 = .ok (.if_icmp .gt 7, 3) := by decide +kernel
theorem d_G_isSlot_11 : decode b_G_isSlot 11 = .ok (.iconst 1, 1) := by decide +kernel
theorem d_G_isSlot_12 : decode b_G_isSlot 12 = .ok (.goto 4, 3) := by decide +kernel
theorem d_G_isSlot_15 : decode b_G_isSlot 15 = .ok (.iconst 0, 1) := by decide +kernel
theorem d_G_isSlot_16 : decode b_G_isSlot 16 = .ok (.ireturn, 1) := by decide +kernel
theorem d_Lines_slotsOf_0 : decode b_Lines_slotsOf 0 = .ok (.iconst 0, 1) := by decide +kernel
theorem d_Lines_slotsOf_1 : decode b_Lines_slotsOf 1 = .ok (.istore_n 2, 1) := by decide +kernel
theorem d_Lines_slotsOf_2 : decode b_Lines_slotsOf 2 = .ok (.iconst 0, 1) := by decide +kernel
theorem d_Lines_slotsOf_3 : decode b_Lines_slotsOf 3 = .ok (.istore_n 3, 1) := by decide +kernel
theorem d_Lines_slotsOf_4 : decode b_Lines_slotsOf 4 = .ok (.iload_n 3, 1) := by decide +kernel
theorem d_Lines_slotsOf_5 : decode b_Lines_slotsOf 5 = .ok (.aload_n 0, 1) := by decide +kernel
theorem d_Lines_slotsOf_6 : decode b_Lines_slotsOf 6 = .ok (.iload_n 1, 1) := by decide +kernel
theorem d_Lines_slotsOf_7 : decode b_Lines_slotsOf 7 = .ok (.invokevirtual 43, 3) := by decide +kernel
theorem d_Lines_slotsOf_10 : decode b_Lines_slotsOf 10 = .ok (.if_icmp .ge 24, 3) := by decide +kernel
theorem d_Lines_slotsOf_13 : decode b_Lines_slotsOf 13 = .ok (.aload_n 0, 1) := by decide +kernel
theorem d_Lines_slotsOf_14 : decode b_Lines_slotsOf 14 = .ok (.iload_n 1, 1) := by decide +kernel
theorem d_Lines_slotsOf_15 : decode b_Lines_slotsOf 15 = .ok (.iload_n 3, 1) := by decide +kernel
theorem d_Lines_slotsOf_16 : decode b_Lines_slotsOf 16 = .ok (.invokevirtual 47, 3) := by decide +kernel
theorem d_Lines_slotsOf_19 : decode b_Lines_slotsOf 19 = .ok (.invokestatic 51, 3) := by decide +kernel
theorem d_Lines_slotsOf_22 : decode b_Lines_slotsOf 22 = .ok (.ifCond .eq 6, 3) := by decide +kernel
theorem d_Lines_slotsOf_25 : decode b_Lines_slotsOf 25 = .ok (.iinc 2 1, 3) := by decide +kernel
theorem d_Lines_slotsOf_28 : decode b_Lines_slotsOf 28 = .ok (.iinc 3 1, 3) := by decide +kernel
theorem d_Lines_slotsOf_31 : decode b_Lines_slotsOf 31 = .ok (.goto (-27), 3) := by decide +kernel
theorem d_Lines_slotsOf_34 : decode b_Lines_slotsOf 34 = .ok (.iload_n 2, 1) := by decide +kernel
theorem d_Lines_slotsOf_35 : decode b_Lines_slotsOf 35 = .ok (.ireturn, 1) := by decide +kernel
theorem d_Lines_allows_0 : decode b_Lines_allows 0 = .ok (.aload_n 0, 1) := by decide +kernel
theorem d_Lines_allows_1 : decode b_Lines_allows 1 = .ok (.iload_n 1, 1) := by decide +kernel
theorem d_Lines_allows_2 : decode b_Lines_allows 2 = .ok (.aload_n 0, 1) := by decide +kernel
theorem d_Lines_allows_3 : decode b_Lines_allows 3 = .ok (.iload_n 1, 1) := by decide +kernel
theorem d_Lines_allows_4 : decode b_Lines_allows 4 = .ok (.invokevirtual 43, 3) := by decide +kernel
theorem d_Lines_allows_7 : decode b_Lines_allows 7 = .ok (.iconst 1, 1) := by decide +kernel
theorem d_Lines_allows_8 : decode b_Lines_allows 8 = .ok (.isub, 1) := by decide +kernel
theorem d_Lines_allows_9 : decode b_Lines_allows 9 = .ok (.invokevirtual 47, 3) := by decide +kernel
theorem d_Lines_allows_12 : decode b_Lines_allows 12 = .ok (.istore_n 3, 1) := by decide +kernel
theorem d_Lines_allows_13 : decode b_Lines_allows 13 = .ok (.iload_n 2, 1) := by decide +kernel
theorem d_Lines_allows_14 : decode b_Lines_allows 14 = .ok (.iconst 1, 1) := by decide +kernel
theorem d_Lines_allows_15 : decode b_Lines_allows 15 = .ok (.if_icmp .ne 18, 3) := by decide +kernel
theorem d_Lines_allows_18 : decode b_Lines_allows 18 = .ok (.iload_n 3, 1) := by decide +kernel
theorem d_Lines_allows_19 : decode b_Lines_allows 19 = .ok (.ifCond .eq 8, 3) := by decide +kernel
theorem d_Lines_allows_22 : decode b_Lines_allows 22 = .ok (.iload_n 3, 1) := by decide +kernel
theorem d_Lines_allows_23 : decode b_Lines_allows 23 = .ok (.iconst 1, 1) := by decide +kernel
theorem d_Lines_allows_24 : decode b_Lines_allows 24 = .ok (.if_icmp .ne 7, 3) := by decide +kernel
theorem d_Lines_allows_27 : decode b_Lines_allows 27 = .ok (.iconst 1, 1) := by decide +kernel
theorem d_Lines_allows_28 : decode b_Lines_allows 28 = .ok (.goto 4, 3) := by decide +kernel
theorem d_Lines_allows_31 : decode b_Lines_allows 31 = .ok (.iconst 0, 1) := by decide +kernel
theorem d_Lines_allows_32 : decode b_Lines_allows 32 = .ok (.ireturn, 1) := by decide +kernel
theorem d_Lines_allows_33 : decode b_Lines_allows 33 = .ok (.iload_n 3, 1) := by decide +kernel
theorem d_Lines_allows_34 : decode b_Lines_allows 34 = .ok (.bipush 9, 2) := by decide +kernel
theorem d_Lines_allows_36 : decode b_Lines_allows 36 = .ok (.if_icmp .ne 9, 3) := by decide +kernel
theorem d_Lines_allows_39 : decode b_Lines_allows 39 = .ok (.iload_n 2, 1) := by decide +kernel
theorem d_Lines_allows_40 : decode b_Lines_allows 40 = .ok (.ifCond .eq 5, 3) := by decide +kernel
theorem d_Lines_allows_43 : decode b_Lines_allows 43 = .ok (.iconst 0, 1) := by decide +kernel
theorem d_Lines_allows_44 : decode b_Lines_allows 44 = .ok (.ireturn, 1) := by decide +kernel
theorem d_Lines_allows_45 : decode b_Lines_allows 45 = .ok (.iload_n 2, 1) := by decide +kernel
theorem d_Lines_allows_46 : decode b_Lines_allows 46 = .ok (.invokestatic 51, 3) := by decide +kernel
theorem d_Lines_allows_49 : decode b_Lines_allows 49 = .ok (.ifCond .eq 12, 3) := by decide +kernel
theorem d_Lines_allows_52 : decode b_Lines_allows 52 = .ok (.aload_n 0, 1) := by decide +kernel
theorem d_Lines_allows_53 : decode b_Lines_allows 53 = .ok (.iload_n 1, 1) := by decide +kernel
theorem d_Lines_allows_54 : decode b_Lines_allows 54 = .ok (.invokevirtual 54, 3) := by decide +kernel
theorem d_Lines_allows_57 : decode b_Lines_allows 57 = .ok (.iconst 2, 1) := by decide +kernel
theorem d_Lines_allows_58 : decode b_Lines_allows 58 = .ok (.if_icmp .ge 7, 3) := by decide +kernel
theorem d_Lines_allows_61 : decode b_Lines_allows 61 = .ok (.iconst 1, 1) := by decide +kernel
theorem d_Lines_allows_62 : decode b_Lines_allows 62 = .ok (.goto 4, 3) := by decide +kernel
theorem d_Lines_allows_65 : decode b_Lines_allows 65 = .ok (.iconst 0, 1) := by decide +kernel
theorem d_Lines_allows_66 : decode b_Lines_allows 66 = .ok (.ireturn, 1) := by decide +kernel
theorem d_Lines_addKind_0 : decode b_Lines_addKind 0 = .ok (.aload_n 0, 1) := by decide +kernel
theorem d_Lines_addKind_1 : decode b_Lines_addKind 1 = .ok (.iload_n 1, 1) := by decide +kernel
theorem d_Lines_addKind_2 : decode b_Lines_addKind 2 = .ok (.invokevirtual 39, 3) := by decide +kernel
theorem d_Lines_addKind_5 : decode b_Lines_addKind 5 = .ok (.ifCond .eq 53, 3) := by decide +kernel
theorem d_Lines_addKind_8 : decode b_Lines_addKind 8 = .ok (.aload_n 0, 1) := by decide +kernel
theorem d_Lines_addKind_9 : decode b_Lines_addKind 9 = .ok (.getfield 22, 3) := by decide +kernel
theorem d_Lines_addKind_12 : decode b_Lines_addKind 12 = .ok (.iload_n 1, 1) := by decide +kernel
theorem d_Lines_addKind_13 : decode b_Lines_addKind 13 = .ok (.iaload, 1) := by decide +kernel
theorem d_Lines_addKind_14 : decode b_Lines_addKind 14 = .ok (.bipush 8, 2) := by decide +kernel
theorem d_Lines_addKind_16 : decode b_Lines_addKind 16 = .ok (.if_icmp .ge 42, 3) := by decide +kernel
theorem d_Lines_addKind_19 : decode b_Lines_addKind 19 = .ok (.iload_n 1, 1) := by decide +kernel
theorem d_Lines_addKind_20 : decode b_Lines_addKind 20 = .ok (.bipush 8, 2) := by decide +kernel
theorem d_Lines_addKind_22 : decode b_Lines_addKind 22 = .ok (.imul, 1) := by decide +kernel
theorem d_Lines_addKind_23 : decode b_Lines_addKind 23 = .ok (.aload_n 0, 1) := by decide +kernel
theorem d_Lines_addKind_24 : decode b_Lines_addKind 24 = .ok (.getfield 22, 3) := by decide +kernel
theorem d_Lines_addKind_27 : decode b_Lines_addKind 27 = .ok (.iload_n 1, 1) := by decide +kernel
theorem d_Lines_addKind_28 : decode b_Lines_addKind 28 = .ok (.iaload, 1) := by decide +kernel
theorem d_Lines_addKind_29 : decode b_Lines_addKind 29 = .ok (.iadd, 1) := by decide +kernel
theorem d_Lines_addKind_30 : decode b_Lines_addKind 30 = .ok (.istore 4, 2) := by decide +kernel
theorem d_Lines_addKind_32 : decode b_Lines_addKind 32 = .ok (.aload_n 0, 1) := by decide +kernel
theorem d_Lines_addKind_33 : decode b_Lines_addKind 33 = .ok (.getfield 25, 3) := by decide +kernel
theorem d_Lines_addKind_36 : decode b_Lines_addKind 36 = .ok (.iload 4, 2) := by decide +kernel
theorem d_Lines_addKind_38 : decode b_Lines_addKind 38 = .ok (.iload_n 2, 1) := by decide +kernel
theorem d_Lines_addKind_39 : decode b_Lines_addKind 39 = .ok (.iastore, 1) := by decide +kernel
theorem d_Lines_addKind_40 : decode b_Lines_addKind 40 = .ok (.aload_n 0, 1) := by decide +kernel
theorem d_Lines_addKind_41 : decode b_Lines_addKind 41 = .ok (.getfield 28, 3) := by decide +kernel
theorem d_Lines_addKind_44 : decode b_Lines_addKind 44 = .ok (.iload 4, 2) := by decide +kernel
theorem d_Lines_addKind_46 : decode b_Lines_addKind 46 = .ok (.iload_n 3, 1) := by decide +kernel
theorem d_Lines_addKind_47 : decode b_Lines_addKind 47 = .ok (.iastore, 1) := by decide +kernel
theorem d_Lines_addKind_48 : decode b_Lines_addKind 48 = .ok (.aload_n 0, 1) := by decide +kernel
theorem d_Lines_addKind_49 : decode b_Lines_addKind 49 = .ok (.getfield 22, 3) := by decide +kernel
theorem d_Lines_addKind_52 : decode b_Lines_addKind 52 = .ok (.iload_n 1, 1) := by decide +kernel
theorem d_Lines_addKind_53 : decode b_Lines_addKind 53 = .ok (.dup2, 1) := by decide +kernel
theorem d_Lines_addKind_54 : decode b_Lines_addKind 54 = .ok (.iaload, 1) := by decide +kernel
theorem d_Lines_addKind_55 : decode b_Lines_addKind 55 = .ok (.iconst 1, 1) := by decide +kernel
theorem d_Lines_addKind_56 : decode b_Lines_addKind 56 = .ok (.iadd, 1) := by decide +kernel
theorem d_Lines_addKind_57 : decode b_Lines_addKind 57 = .ok (.iastore, 1) := by decide +kernel
theorem d_Lines_addKind_58 : decode b_Lines_addKind 58 = .ok (.aload_n 0, 1) := by decide +kernel
theorem d_Lines_addKind_59 : decode b_Lines_addKind 59 = .ok (.iload_n 1, 1) := by decide +kernel
theorem d_Lines_addKind_60 : decode b_Lines_addKind 60 = .ok (.invokevirtual 43, 3) := by decide +kernel
theorem d_Lines_addKind_63 : decode b_Lines_addKind 63 = .ok (.ireturn, 1) := by decide +kernel
theorem d_G_token_0 : decode b_G_token 0 = .ok (.aload_n 0, 1) := by decide +kernel
theorem d_G_token_1 : decode b_G_token 1 = .ok (.getfield 26, 3) := by decide +kernel
theorem d_G_token_4 : decode b_G_token 4 = .ok (.iload_n 1, 1) := by decide +kernel
theorem d_G_token_5 : decode b_G_token 5 = .ok (.invokevirtual 113, 3) := by decide +kernel
theorem d_G_token_8 : decode b_G_token 8 = .ok (.ifCond .ne 6, 3) := by decide +kernel
theorem d_G_token_11 : decode b_G_token 11 = .ok (.bipush (-101), 2) := by decide +kernel
theorem d_G_token_13 : decode b_G_token 13 = .ok (.ireturn, 1) := by decide +kernel
theorem d_G_token_14 : decode b_G_token 14 = .ok (.iload_n 2, 1) := by decide +kernel
theorem d_G_token_15 : decode b_G_token 15 = .ok (.iload_n 3, 1) := by decide +kernel
theorem d_G_token_16 : decode b_G_token 16 = .ok (.invokestatic 114, 3) := by decide +kernel
theorem d_G_token_19 : decode b_G_token 19 = .ok (.ifCond .ne 6, 3) := by decide +kernel
theorem d_G_token_22 : decode b_G_token 22 = .ok (.bipush (-102), 2) := by decide +kernel
theorem d_G_token_24 : decode b_G_token 24 = .ok (.ireturn, 1) := by decide +kernel
theorem d_G_token_25 : decode b_G_token 25 = .ok (.aload_n 0, 1) := by decide +kernel
theorem d_G_token_26 : decode b_G_token 26 = .ok (.getfield 26, 3) := by decide +kernel
theorem d_G_token_29 : decode b_G_token 29 = .ok (.iload_n 1, 1) := by decide +kernel
theorem d_G_token_30 : decode b_G_token 30 = .ok (.iload_n 2, 1) := by decide +kernel
theorem d_G_token_31 : decode b_G_token 31 = .ok (.invokevirtual 118, 3) := by decide +kernel
theorem d_G_token_34 : decode b_G_token 34 = .ok (.ifCond .ne 6, 3) := by decide +kernel
theorem d_G_token_37 : decode b_G_token 37 = .ok (.bipush (-103), 2) := by decide +kernel
theorem d_G_token_39 : decode b_G_token 39 = .ok (.ireturn, 1) := by decide +kernel
theorem d_G_token_40 : decode b_G_token 40 = .ok (.aload_n 0, 1) := by decide +kernel
theorem d_G_token_41 : decode b_G_token 41 = .ok (.getfield 26, 3) := by decide +kernel
theorem d_G_token_44 : decode b_G_token 44 = .ok (.iload_n 1, 1) := by decide +kernel
theorem d_G_token_45 : decode b_G_token 45 = .ok (.invokevirtual 121, 3) := by decide +kernel
theorem d_G_token_48 : decode b_G_token 48 = .ok (.bipush 8, 2) := by decide +kernel
theorem d_G_token_50 : decode b_G_token 50 = .ok (.if_icmp .lt 6, 3) := by decide +kernel
theorem d_G_token_53 : decode b_G_token 53 = .ok (.bipush (-104), 2) := by decide +kernel
theorem d_G_token_55 : decode b_G_token 55 = .ok (.ireturn, 1) := by decide +kernel
theorem d_G_token_56 : decode b_G_token 56 = .ok (.aload_n 0, 1) := by decide +kernel
theorem d_G_token_57 : decode b_G_token 57 = .ok (.getfield 26, 3) := by decide +kernel
theorem d_G_token_60 : decode b_G_token 60 = .ok (.iload_n 1, 1) := by decide +kernel
theorem d_G_token_61 : decode b_G_token 61 = .ok (.iload_n 2, 1) := by decide +kernel
theorem d_G_token_62 : decode b_G_token 62 = .ok (.iload_n 3, 1) := by decide +kernel
theorem d_G_token_63 : decode b_G_token 63 = .ok (.invokevirtual 124, 3) := by decide +kernel
theorem d_G_token_66 : decode b_G_token 66 = .ok (.ireturn, 1) := by decide +kernel
theorem d_G_mayBeFlags_0 : decode b_G_mayBeFlags 0 = .ok (.iload_n 0, 1) := by decide +kernel
theorem d_G_mayBeFlags_1 : decode b_G_mayBeFlags 1 = .ok (.ifCond .lt 13, 3) := by decide +kernel
theorem d_G_mayBeFlags_4 : decode b_G_mayBeFlags 4 = .ok (.iload_n 0, 1) := by decide +kernel
theorem d_G_mayBeFlags_5 : decode b_G_mayBeFlags 5 = .ok (.bipush 15, 2) := by decide +kernel
theorem d_G_mayBeFlags_7 : decode b_G_mayBeFlags 7 = .ok (.if_icmp .gt 7, 3) := by decide +kernel
theorem d_G_mayBeFlags_10 : decode b_G_mayBeFlags 10 = .ok (.iconst 1, 1) := by decide +kernel
theorem d_G_mayBeFlags_11 : decode b_G_mayBeFlags 11 = .ok (.goto 4, 3) := by decide +kernel
theorem d_G_mayBeFlags_14 : decode b_G_mayBeFlags 14 = .ok (.iconst 0, 1) := by decide +kernel
theorem d_G_mayBeFlags_15 : decode b_G_mayBeFlags 15 = .ok (.ireturn, 1) := by decide +kernel
theorem d_Things_isFull_0 : decode b_Things_isFull 0 = .ok (.aload_n 0, 1) := by decide +kernel
theorem d_Things_isFull_1 : decode b_Things_isFull 1 = .ok (.getfield 21, 3) := by decide +kernel
theorem d_Things_isFull_4 : decode b_Things_isFull 4 = .ok (.bipush 40, 2) := by decide +kernel
theorem d_Things_isFull_6 : decode b_Things_isFull 6 = .ok (.if_icmp .lt 7, 3) := by decide +kernel
theorem d_Things_isFull_9 : decode b_Things_isFull 9 = .ok (.iconst 1, 1) := by decide +kernel
theorem d_Things_isFull_10 : decode b_Things_isFull 10 = .ok (.goto 4, 3) := by decide +kernel
theorem d_Things_isFull_13 : decode b_Things_isFull 13 = .ok (.iconst 0, 1) := by decide +kernel
theorem d_Things_isFull_14 : decode b_Things_isFull 14 = .ok (.ireturn, 1) := by decide +kernel
theorem d_Things_has_0 : decode b_Things_has 0 = .ok (.iload_n 1, 1) := by decide +kernel
theorem d_Things_has_1 : decode b_Things_has 1 = .ok (.ifCond .lt 15, 3) := by decide +kernel
theorem d_Things_has_4 : decode b_Things_has 4 = .ok (.iload_n 1, 1) := by decide +kernel
theorem d_Things_has_5 : decode b_Things_has 5 = .ok (.aload_n 0, 1) := by decide +kernel
theorem d_Things_has_6 : decode b_Things_has 6 = .ok (.getfield 21, 3) := by decide +kernel
theorem d_Things_has_9 : decode b_Things_has 9 = .ok (.if_icmp .ge 7, 3) := by decide +kernel
theorem d_Things_has_12 : decode b_Things_has 12 = .ok (.iconst 1, 1) := by decide +kernel
theorem d_Things_has_13 : decode b_Things_has 13 = .ok (.goto 4, 3) := by decide +kernel
theorem d_Things_has_16 : decode b_Things_has 16 = .ok (.iconst 0, 1) := by decide +kernel
theorem d_Things_has_17 : decode b_Things_has 17 = .ok (.ireturn, 1) := by decide +kernel
theorem d_Things_withAnyOf_0 : decode b_Things_withAnyOf 0 = .ok (.lconst 0, 1) := by decide +kernel
theorem d_Things_withAnyOf_1 : decode b_Things_withAnyOf 1 = .ok (.lstore_n 2, 1) := by decide +kernel
theorem d_Things_withAnyOf_2 : decode b_Things_withAnyOf 2 = .ok (.iconst 0, 1) := by decide +kernel
theorem d_Things_withAnyOf_3 : decode b_Things_withAnyOf 3 = .ok (.istore 4, 2) := by decide +kernel
theorem d_Things_withAnyOf_5 : decode b_Things_withAnyOf 5 = .ok (.iload 4, 2) := by decide +kernel
theorem d_Things_withAnyOf_7 : decode b_Things_withAnyOf 7 = .ok (.aload_n 0, 1) := by decide +kernel
theorem d_Things_withAnyOf_8 : decode b_Things_withAnyOf 8 = .ok (.getfield 21, 3) := by decide +kernel
theorem d_Things_withAnyOf_11 : decode b_Things_withAnyOf 11 = .ok (.if_icmp .ge 28, 3) := by decide +kernel
theorem d_Things_withAnyOf_14 : decode b_Things_withAnyOf 14 = .ok (.aload_n 0, 1) := by decide +kernel
theorem d_Things_withAnyOf_15 : decode b_Things_withAnyOf 15 = .ok (.getfield 9, 3) := by decide +kernel
theorem d_Things_withAnyOf_18 : decode b_Things_withAnyOf 18 = .ok (.iload 4, 2) := by decide +kernel
theorem d_Things_withAnyOf_20 : decode b_Things_withAnyOf 20 = .ok (.iaload, 1) := by decide +kernel
theorem d_Things_withAnyOf_21 : decode b_Things_withAnyOf 21 = .ok (.iload_n 1, 1) := by decide +kernel
theorem d_Things_withAnyOf_22 : decode b_Things_withAnyOf 22 = .ok (.iand, 1) := by decide +kernel
theorem d_Things_withAnyOf_23 : decode b_Things_withAnyOf 23 = .ok (.ifCond .eq 10, 3) := by decide +kernel
theorem d_Things_withAnyOf_26 : decode b_Things_withAnyOf 26 = .ok (.lload_n 2, 1) := by decide +kernel
theorem d_Things_withAnyOf_27 : decode b_Things_withAnyOf 27 = .ok (.lconst 1, 1) := by decide +kernel
theorem d_Things_withAnyOf_28 : decode b_Things_withAnyOf 28 = .ok (.iload 4, 2) := by decide +kernel
theorem d_Things_withAnyOf_30 : decode b_Things_withAnyOf 30 = .ok (.lshl, 1) := by decide +kernel
theorem d_Things_withAnyOf_31 : decode b_Things_withAnyOf 31 = .ok (.lor, 1) := by decide +kernel
theorem d_Things_withAnyOf_32 : decode b_Things_withAnyOf 32 = .ok (.lstore_n 2, 1) := by decide +kernel
theorem d_Things_withAnyOf_33 : decode b_Things_withAnyOf 33 = .ok (.iinc 4 1, 3) := by decide +kernel
theorem d_Things_withAnyOf_36 : decode b_Things_withAnyOf 36 = .ok (.goto (-31), 3) := by decide +kernel
theorem d_Things_withAnyOf_39 : decode b_Things_withAnyOf 39 = .ok (.lload_n 2, 1) := by decide +kernel
theorem d_Things_withAnyOf_40 : decode b_Things_withAnyOf 40 = .ok (.lreturn, 1) := by decide +kernel
theorem d_Things_changeFlags_0 : decode b_Things_changeFlags 0 = .ok (.aload_n 0, 1) := by decide +kernel
theorem d_Things_changeFlags_1 : decode b_Things_changeFlags 1 = .ok (.iload_n 1, 1) := by decide +kernel
theorem d_Things_changeFlags_2 : decode b_Things_changeFlags 2 = .ok (.invokevirtual 33, 3) := by decide +kernel
theorem d_Things_changeFlags_5 : decode b_Things_changeFlags 5 = .ok (.ifCond .ne 5, 3) := by decide +kernel
theorem d_Things_changeFlags_8 : decode b_Things_changeFlags 8 = .ok (.iconst (-1), 1) := by decide +kernel
theorem d_Things_changeFlags_9 : decode b_Things_changeFlags 9 = .ok (.ireturn, 1) := by decide +kernel
theorem d_Things_changeFlags_10 : decode b_Things_changeFlags 10 = .ok (.aload_n 0, 1) := by decide +kernel
theorem d_Things_changeFlags_11 : decode b_Things_changeFlags 11 = .ok (.getfield 9, 3) := by decide +kernel
theorem d_Things_changeFlags_14 : decode b_Things_changeFlags 14 = .ok (.iload_n 1, 1) := by decide +kernel
theorem d_Things_changeFlags_15 : decode b_Things_changeFlags 15 = .ok (.iaload, 1) := by decide +kernel
theorem d_Things_changeFlags_16 : decode b_Things_changeFlags 16 = .ok (.istore_n 3, 1) := by decide +kernel
theorem d_Things_changeFlags_17 : decode b_Things_changeFlags 17 = .ok (.aload_n 0, 1) := by decide +kernel
theorem d_Things_changeFlags_18 : decode b_Things_changeFlags 18 = .ok (.getfield 9, 3) := by decide +kernel
theorem d_Things_changeFlags_21 : decode b_Things_changeFlags 21 = .ok (.iload_n 1, 1) := by decide +kernel
theorem d_Things_changeFlags_22 : decode b_Things_changeFlags 22 = .ok (.iload_n 2, 1) := by decide +kernel
theorem d_Things_changeFlags_23 : decode b_Things_changeFlags 23 = .ok (.iastore, 1) := by decide +kernel
theorem d_Things_changeFlags_24 : decode b_Things_changeFlags 24 = .ok (.aload_n 0, 1) := by decide +kernel
theorem d_Things_changeFlags_25 : decode b_Things_changeFlags 25 = .ok (.aload_n 0, 1) := by decide +kernel
theorem d_Things_changeFlags_26 : decode b_Things_changeFlags 26 = .ok (.bipush 7, 2) := by decide +kernel
theorem d_Things_changeFlags_28 : decode b_Things_changeFlags 28 = .ok (.invokevirtual 37, 3) := by decide +kernel
theorem d_Things_changeFlags_31 : decode b_Things_changeFlags 31 = .ok (.putfield 41, 3) := by decide +kernel
theorem d_Things_changeFlags_34 : decode b_Things_changeFlags 34 = .ok (.aload_n 0, 1) := by decide +kernel
theorem d_Things_changeFlags_35 : decode b_Things_changeFlags 35 = .ok (.aload_n 0, 1) := by decide +kernel
theorem d_Things_changeFlags_36 : decode b_Things_changeFlags 36 = .ok (.bipush 6, 2) := by decide +kernel
theorem d_Things_changeFlags_38 : decode b_Things_changeFlags 38 = .ok (.invokevirtual 37, 3) := by decide +kernel
theorem d_Things_changeFlags_41 : decode b_Things_changeFlags 41 = .ok (.putfield 45, 3) := by decide +kernel
theorem d_Things_changeFlags_44 : decode b_Things_changeFlags 44 = .ok (.aload_n 0, 1) := by decide +kernel
theorem d_Things_changeFlags_45 : decode b_Things_changeFlags 45 = .ok (.aload_n 0, 1) := by decide +kernel
theorem d_Things_changeFlags_46 : decode b_Things_changeFlags 46 = .ok (.iconst 4, 1) := by decide +kernel
theorem d_Things_changeFlags_47 : decode b_Things_changeFlags 47 = .ok (.invokevirtual 37, 3) := by decide +kernel
theorem d_Things_changeFlags_50 : decode b_Things_changeFlags 50 = .ok (.putfield 48, 3) := by decide +kernel
theorem d_Things_changeFlags_53 : decode b_Things_changeFlags 53 = .ok (.aload_n 0, 1) := by decide +kernel
theorem d_Things_changeFlags_54 : decode b_Things_changeFlags 54 = .ok (.aload_n 0, 1) := by decide +kernel
theorem d_Things_changeFlags_55 : decode b_Things_changeFlags 55 = .ok (.bipush 8, 2) := by decide +kernel
theorem d_Things_changeFlags_57 : decode b_Things_changeFlags 57 = .ok (.invokevirtual 37, 3) := by decide +kernel
theorem d_Things_changeFlags_60 : decode b_Things_changeFlags 60 = .ok (.putfield 51, 3) := by decide +kernel
theorem d_Things_changeFlags_63 : decode b_Things_changeFlags 63 = .ok (.iload_n 3, 1) := by decide +kernel
theorem d_Things_changeFlags_64 : decode b_Things_changeFlags 64 = .ok (.ireturn, 1) := by decide +kernel
theorem d_Things_add_0 : decode b_Things_add 0 = .ok (.aload_n 0, 1) := by decide +kernel
theorem d_Things_add_1 : decode b_Things_add 1 = .ok (.invokevirtual 25, 3) := by decide +kernel
theorem d_Things_add_4 : decode b_Things_add 4 = .ok (.ifCond .eq 5, 3) := by decide +kernel
theorem d_Things_add_7 : decode b_Things_add 7 = .ok (.iconst (-1), 1) := by decide +kernel
theorem d_Things_add_8 : decode b_Things_add 8 = .ok (.ireturn, 1) := by decide +kernel
theorem d_Things_add_9 : decode b_Things_add 9 = .ok (.aload_n 0, 1) := by decide +kernel
theorem d_Things_add_10 : decode b_Things_add 10 = .ok (.dup, 1) := by decide +kernel
theorem d_Things_add_11 : decode b_Things_add 11 = .ok (.getfield 21, 3) := by decide +kernel
theorem d_Things_add_14 : decode b_Things_add 14 = .ok (.iconst 1, 1) := by decide +kernel
theorem d_Things_add_15 : decode b_Things_add 15 = .ok (.iadd, 1) := by decide +kernel
theorem d_Things_add_16 : decode b_Things_add 16 = .ok (.putfield 21, 3) := by decide +kernel
theorem d_Things_add_19 : decode b_Things_add 19 = .ok (.aload_n 0, 1) := by decide +kernel
theorem d_Things_add_20 : decode b_Things_add 20 = .ok (.aload_n 0, 1) := by decide +kernel
theorem d_Things_add_21 : decode b_Things_add 21 = .ok (.getfield 21, 3) := by decide +kernel
theorem d_Things_add_24 : decode b_Things_add 24 = .ok (.iconst 1, 1) := by decide +kernel
theorem d_Things_add_25 : decode b_Things_add 25 = .ok (.isub, 1) := by decide +kernel
theorem d_Things_add_26 : decode b_Things_add 26 = .ok (.iload_n 1, 1) := by decide +kernel
theorem d_Things_add_27 : decode b_Things_add 27 = .ok (.invokevirtual 29, 3) := by decide +kernel
theorem d_Things_add_30 : decode b_Things_add 30 = .ok (.pop, 1) := by decide +kernel
theorem d_Things_add_31 : decode b_Things_add 31 = .ok (.aload_n 0, 1) := by decide +kernel
theorem d_Things_add_32 : decode b_Things_add 32 = .ok (.getfield 21, 3) := by decide +kernel
theorem d_Things_add_35 : decode b_Things_add 35 = .ok (.iconst 1, 1) := by decide +kernel
theorem d_Things_add_36 : decode b_Things_add 36 = .ok (.isub, 1) := by decide +kernel
theorem d_Things_add_37 : decode b_Things_add 37 = .ok (.ireturn, 1) := by decide +kernel
theorem d_G_thing_0 : decode b_G_thing 0 = .ok (.iload_n 1, 1) := by decide +kernel
theorem d_G_thing_1 : decode b_G_thing 1 = .ok (.invokestatic 128, 3) := by decide +kernel
theorem d_G_thing_4 : decode b_G_thing 4 = .ok (.ifCond .ne 6, 3) := by decide +kernel
theorem d_G_thing_7 : decode b_G_thing 7 = .ok (.bipush (-102), 2) := by decide +kernel
theorem d_G_thing_9 : decode b_G_thing 9 = .ok (.ireturn, 1) := by decide +kernel
theorem d_G_thing_10 : decode b_G_thing 10 = .ok (.aload_n 0, 1) := by decide +kernel
theorem d_G_thing_11 : decode b_G_thing 11 = .ok (.getfield 10, 3) := by decide +kernel
theorem d_G_thing_14 : decode b_G_thing 14 = .ok (.invokevirtual 131, 3) := by decide +kernel
theorem d_G_thing_17 : decode b_G_thing 17 = .ok (.ifCond .eq 6, 3) := by decide +kernel
theorem d_G_thing_20 : decode b_G_thing 20 = .ok (.bipush (-104), 2) := by decide +kernel
theorem d_G_thing_22 : decode b_G_thing 22 = .ok (.ireturn, 1) := by decide +kernel
theorem d_G_thing_23 : decode b_G_thing 23 = .ok (.aload_n 0, 1) := by decide +kernel
theorem d_G_thing_24 : decode b_G_thing 24 = .ok (.getfield 10, 3) := by decide +kernel
theorem d_G_thing_27 : decode b_G_thing 27 = .ok (.iload_n 1, 1) := by decide +kernel
theorem d_G_thing_28 : decode b_G_thing 28 = .ok (.invokevirtual 132, 3) := by decide +kernel
theorem d_G_thing_31 : decode b_G_thing 31 = .ok (.ireturn, 1) := by decide +kernel
theorem d_Things_isNamed_0 : decode b_Things_isNamed 0 = .ok (.iconst 0, 1) := by decide +kernel
theorem d_Things_isNamed_1 : decode b_Things_isNamed 1 = .ok (.istore_n 3, 1) := by decide +kernel
theorem d_Things_isNamed_2 : decode b_Things_isNamed 2 = .ok (.aload_n 0, 1) := by decide +kernel
theorem d_Things_isNamed_3 : decode b_Things_isNamed 3 = .ok (.iload_n 1, 1) := by decide +kernel
theorem d_Things_isNamed_4 : decode b_Things_isNamed 4 = .ok (.invokevirtual 33, 3) := by decide +kernel
theorem d_Things_isNamed_7 : decode b_Things_isNamed 7 = .ok (.ifCond .eq 35, 3) := by decide +kernel
theorem d_Things_isNamed_10 : decode b_Things_isNamed 10 = .ok (.iload_n 3, 1) := by decide +kernel
theorem d_Things_isNamed_11 : decode b_Things_isNamed 11 = .ok (.aload_n 0, 1) := by decide +kernel
theorem d_Things_isNamed_12 : decode b_Things_isNamed 12 = .ok (.getfield 15, 3) := by decide +kernel
theorem d_Things_isNamed_15 : decode b_Things_isNamed 15 = .ok (.iload_n 1, 1) := by decide +kernel
theorem d_Things_isNamed_16 : decode b_Things_isNamed 16 = .ok (.iaload, 1) := by decide +kernel
theorem d_Things_isNamed_17 : decode b_Things_isNamed 17 = .ok (.if_icmp .ge 25, 3) := by decide +kernel
theorem d_Things_isNamed_20 : decode b_Things_isNamed 20 = .ok (.aload_n 0, 1) := by decide +kernel
theorem d_Things_isNamed_21 : decode b_Things_isNamed 21 = .ok (.getfield 18, 3) := by decide +kernel
theorem d_Things_isNamed_24 : decode b_Things_isNamed 24 = .ok (.iload_n 1, 1) := by decide +kernel
theorem d_Things_isNamed_25 : decode b_Things_isNamed 25 = .ok (.iconst 4, 1) := by decide +kernel
theorem d_Things_isNamed_26 : decode b_Things_isNamed 26 = .ok (.imul, 1) := by decide +kernel
theorem d_Things_isNamed_27 : decode b_Things_isNamed 27 = .ok (.iload_n 3, 1) := by decide +kernel
theorem d_Things_isNamed_28 : decode b_Things_isNamed 28 = .ok (.iadd, 1) := by decide +kernel
theorem d_Things_isNamed_29 : decode b_Things_isNamed 29 = .ok (.iaload, 1) := by decide +kernel
theorem d_Things_isNamed_30 : decode b_Things_isNamed 30 = .ok (.iload_n 2, 1) := by decide +kernel
theorem d_Things_isNamed_31 : decode b_Things_isNamed 31 = .ok (.if_icmp .ne 5, 3) := by decide +kernel
theorem d_Things_isNamed_34 : decode b_Things_isNamed 34 = .ok (.iconst 1, 1) := by decide +kernel
theorem d_Things_isNamed_35 : decode b_Things_isNamed 35 = .ok (.ireturn, 1) := by decide +kernel
theorem d_Things_isNamed_36 : decode b_Things_isNamed 36 = .ok (.iinc 3 1, 3) := by decide +kernel
theorem d_Things_isNamed_39 : decode b_Things_isNamed 39 = .ok (.goto (-37), 3) := by decide +kernel
theorem d_Things_isNamed_42 : decode b_Things_isNamed 42 = .ok (.iconst 0, 1) := by decide +kernel
theorem d_Things_isNamed_43 : decode b_Things_isNamed 43 = .ok (.ireturn, 1) := by decide +kernel
theorem d_Things_namesOf_0 : decode b_Things_namesOf 0 = .ok (.aload_n 0, 1) := by decide +kernel
theorem d_Things_namesOf_1 : decode b_Things_namesOf 1 = .ok (.iload_n 1, 1) := by decide +kernel
theorem d_Things_namesOf_2 : decode b_Things_namesOf 2 = .ok (.invokevirtual 33, 3) := by decide +kernel
theorem d_Things_namesOf_5 : decode b_Things_namesOf 5 = .ok (.ifCond .eq 12, 3) := by decide +kernel
theorem d_Things_namesOf_8 : decode b_Things_namesOf 8 = .ok (.aload_n 0, 1) := by decide +kernel
theorem d_Things_namesOf_9 : decode b_Things_namesOf 9 = .ok (.getfield 15, 3) := by decide +kernel
theorem d_Things_namesOf_12 : decode b_Things_namesOf 12 = .ok (.iload_n 1, 1) := by decide +kernel
theorem d_Things_namesOf_13 : decode b_Things_namesOf 13 = .ok (.iaload, 1) := by decide +kernel
theorem d_Things_namesOf_14 : decode b_Things_namesOf 14 = .ok (.goto 4, 3) := by decide +kernel
theorem d_Things_namesOf_17 : decode b_Things_namesOf 17 = .ok (.iconst 0, 1) := by decide +kernel
theorem d_Things_namesOf_18 : decode b_Things_namesOf 18 = .ok (.ireturn, 1) := by decide +kernel
theorem d_Things_addName_0 : decode b_Things_addName 0 = .ok (.aload_n 0, 1) := by decide +kernel
theorem d_Things_addName_1 : decode b_Things_addName 1 = .ok (.iload_n 1, 1) := by decide +kernel
theorem d_Things_addName_2 : decode b_Things_addName 2 = .ok (.invokevirtual 33, 3) := by decide +kernel
theorem d_Things_addName_5 : decode b_Things_addName 5 = .ok (.ifCond .eq 48, 3) := by decide +kernel
theorem d_Things_addName_8 : decode b_Things_addName 8 = .ok (.aload_n 0, 1) := by decide +kernel
theorem d_Things_addName_9 : decode b_Things_addName 9 = .ok (.iload_n 1, 1) := by decide +kernel
theorem d_Things_addName_10 : decode b_Things_addName 10 = .ok (.iload_n 2, 1) := by decide +kernel
theorem d_Things_addName_11 : decode b_Things_addName 11 = .ok (.invokevirtual 54, 3) := by decide +kernel
theorem d_Things_addName_14 : decode b_Things_addName 14 = .ok (.ifCond .ne 39, 3) := by decide +kernel
theorem d_Things_addName_17 : decode b_Things_addName 17 = .ok (.aload_n 0, 1) := by decide +kernel
theorem d_Things_addName_18 : decode b_Things_addName 18 = .ok (.getfield 15, 3) := by decide +kernel
theorem d_Things_addName_21 : decode b_Things_addName 21 = .ok (.iload_n 1, 1) := by decide +kernel
theorem d_Things_addName_22 : decode b_Things_addName 22 = .ok (.iaload, 1) := by decide +kernel
theorem d_Things_addName_23 : decode b_Things_addName 23 = .ok (.iconst 4, 1) := by decide +kernel
theorem d_Things_addName_24 : decode b_Things_addName 24 = .ok (.if_icmp .ge 29, 3) := by decide +kernel
theorem d_Things_addName_27 : decode b_Things_addName 27 = .ok (.aload_n 0, 1) := by decide +kernel
theorem d_Things_addName_28 : decode b_Things_addName 28 = .ok (.getfield 18, 3) := by decide +kernel
theorem d_Things_addName_31 : decode b_Things_addName 31 = .ok (.iload_n 1, 1) := by decide +kernel
theorem d_Things_addName_32 : decode b_Things_addName 32 = .ok (.iconst 4, 1) := by decide +kernel
theorem d_Things_addName_33 : decode b_Things_addName 33 = .ok (.imul, 1) := by decide +kernel
theorem d_Things_addName_34 : decode b_Things_addName 34 = .ok (.aload_n 0, 1) := by decide +kernel
theorem d_Things_addName_35 : decode b_Things_addName 35 = .ok (.getfield 15, 3) := by decide +kernel
theorem d_Things_addName_38 : decode b_Things_addName 38 = .ok (.iload_n 1, 1) := by decide +kernel
theorem d_Things_addName_39 : decode b_Things_addName 39 = .ok (.iaload, 1) := by decide +kernel
theorem d_Things_addName_40 : decode b_Things_addName 40 = .ok (.iadd, 1) := by decide +kernel
theorem d_Things_addName_41 : decode b_Things_addName 41 = .ok (.iload_n 2, 1) := by decide +kernel
theorem d_Things_addName_42 : decode b_Things_addName 42 = .ok (.iastore, 1) := by decide +kernel
theorem d_Things_addName_43 : decode b_Things_addName 43 = .ok (.aload_n 0, 1) := by decide +kernel
theorem d_Things_addName_44 : decode b_Things_addName 44 = .ok (.getfield 15, 3) := by decide +kernel
theorem d_Things_addName_47 : decode b_Things_addName 47 = .ok (.iload_n 1, 1) := by decide +kernel
theorem d_Things_addName_48 : decode b_Things_addName 48 = .ok (.dup2, 1) := by decide +kernel
theorem d_Things_addName_49 : decode b_Things_addName 49 = .ok (.iaload, 1) := by decide +kernel
theorem d_Things_addName_50 : decode b_Things_addName 50 = .ok (.iconst 1, 1) := by decide +kernel
theorem d_Things_addName_51 : decode b_Things_addName 51 = .ok (.iadd, 1) := by decide +kernel
theorem d_Things_addName_52 : decode b_Things_addName 52 = .ok (.iastore, 1) := by decide +kernel
theorem d_Things_addName_53 : decode b_Things_addName 53 = .ok (.aload_n 0, 1) := by decide +kernel
theorem d_Things_addName_54 : decode b_Things_addName 54 = .ok (.iload_n 1, 1) := by decide +kernel
theorem d_Things_addName_55 : decode b_Things_addName 55 = .ok (.invokevirtual 58, 3) := by decide +kernel
theorem d_Things_addName_58 : decode b_Things_addName 58 = .ok (.ireturn, 1) := by decide +kernel
theorem d_G_name_0 : decode b_G_name 0 = .ok (.aload_n 0, 1) := by decide +kernel
