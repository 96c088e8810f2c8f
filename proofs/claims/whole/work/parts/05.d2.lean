theorem d_Report_isAsked_6 : decode b_Report_isAsked 6 = .ok (.if_icmp .eq 12, 3) := by decide +kernel
theorem d_Report_isAsked_9 : decode b_Report_isAsked 9 = .ok (.aload_n 0, 1) := by decide +kernel
theorem d_Report_isAsked_10 : decode b_Report_isAsked 10 = .ok (.getfield 42, 3) := by decide +kernel
theorem d_Report_isAsked_13 : decode b_Report_isAsked 13 = .ok (.bipush 16, 2) := by decide +kernel
theorem d_Report_isAsked_15 : decode b_Report_isAsked 15 = .ok (.if_icmp .ne 7, 3) := by decide +kernel
theorem d_Report_isAsked_18 : decode b_Report_isAsked 18 = .ok (.iconst 1, 1) := by decide +kernel
theorem d_Report_isAsked_19 : decode b_Report_isAsked 19 = .ok (.goto 4, 3) := by decide +kernel
theorem d_Report_isAsked_22 : decode b_Report_isAsked 22 = .ok (.iconst 0, 1) := by decide +kernel
theorem d_Report_isAsked_23 : decode b_Report_isAsked 23 = .ok (.ireturn, 1) := by decide +kernel
theorem d_Lines_verbOf_0 : decode b_Lines_verbOf 0 = .ok (.aload_n 0, 1) := by decide +kernel
theorem d_Lines_verbOf_1 : decode b_Lines_verbOf 1 = .ok (.iload_n 1, 1) := by decide +kernel
theorem d_Lines_verbOf_2 : decode b_Lines_verbOf 2 = .ok (.invokevirtual 39, 3) := by decide +kernel
theorem d_Lines_verbOf_5 : decode b_Lines_verbOf 5 = .ok (.ifCond .eq 12, 3) := by decide +kernel
theorem d_Lines_verbOf_8 : decode b_Lines_verbOf 8 = .ok (.aload_n 0, 1) := by decide +kernel
theorem d_Lines_verbOf_9 : decode b_Lines_verbOf 9 = .ok (.getfield 9, 3) := by decide +kernel
theorem d_Lines_verbOf_12 : decode b_Lines_verbOf 12 = .ok (.iload_n 1, 1) := by decide +kernel
theorem d_Lines_verbOf_13 : decode b_Lines_verbOf 13 = .ok (.iaload, 1) := by decide +kernel
theorem d_Lines_verbOf_14 : decode b_Lines_verbOf 14 = .ok (.goto 4, 3) := by decide +kernel
theorem d_Lines_verbOf_17 : decode b_Lines_verbOf 17 = .ok (.iconst (-1), 1) := by decide +kernel
theorem d_Lines_verbOf_18 : decode b_Lines_verbOf 18 = .ok (.ireturn, 1) := by decide +kernel
theorem d_Slot_empty_0 : decode b_Slot_empty 0 = .ok (.aload_n 0, 1) := by decide +kernel
theorem d_Slot_empty_1 : decode b_Slot_empty 1 = .ok (.getfield 14, 3) := by decide +kernel
theorem d_Slot_empty_4 : decode b_Slot_empty 4 = .ok (.invokevirtual 27, 3) := by decide +kernel
theorem d_Slot_empty_7 : decode b_Slot_empty 7 = .ok (.aload_n 0, 1) := by decide +kernel
theorem d_Slot_empty_8 : decode b_Slot_empty 8 = .ok (.iconst (-1), 1) := by decide +kernel
theorem d_Slot_empty_9 : decode b_Slot_empty 9 = .ok (.putfield 20, 3) := by decide +kernel
theorem d_Slot_empty_12 : decode b_Slot_empty 12 = .ok (.aload_n 0, 1) := by decide +kernel
theorem d_Slot_empty_13 : decode b_Slot_empty 13 = .ok (.iconst (-1), 1) := by decide +kernel
theorem d_Slot_empty_14 : decode b_Slot_empty 14 = .ok (.putfield 24, 3) := by decide +kernel
theorem d_Slot_empty_17 : decode b_Slot_empty 17 = .ok (.aload_n 0, 1) := by decide +kernel
theorem d_Slot_empty_18 : decode b_Slot_empty 18 = .ok (.lconst 0, 1) := by decide +kernel
theorem d_Slot_empty_19 : decode b_Slot_empty 19 = .ok (.putfield 30, 3) := by decide +kernel
theorem d_Slot_empty_22 : decode b_Slot_empty 22 = .ok (.return_, 1) := by decide +kernel
theorem d_Trial_begin_0 : decode b_Trial_begin 0 = .ok (.aload_n 0, 1) := by decide +kernel
theorem d_Trial_begin_1 : decode b_Trial_begin 1 = .ok (.iload_n 1, 1) := by decide +kernel
theorem d_Trial_begin_2 : decode b_Trial_begin 2 = .ok (.putfield 33, 3) := by decide +kernel
theorem d_Trial_begin_5 : decode b_Trial_begin 5 = .ok (.aload_n 0, 1) := by decide +kernel
theorem d_Trial_begin_6 : decode b_Trial_begin 6 = .ok (.iconst 1, 1) := by decide +kernel
theorem d_Trial_begin_7 : decode b_Trial_begin 7 = .ok (.putfield 83, 3) := by decide +kernel
theorem d_Trial_begin_10 : decode b_Trial_begin 10 = .ok (.aload_n 0, 1) := by decide +kernel
theorem d_Trial_begin_11 : decode b_Trial_begin 11 = .ok (.iconst 0, 1) := by decide +kernel
theorem d_Trial_begin_12 : decode b_Trial_begin 12 = .ok (.putfield 76, 3) := by decide +kernel
theorem d_Trial_begin_15 : decode b_Trial_begin 15 = .ok (.aload_n 0, 1) := by decide +kernel
theorem d_Trial_begin_16 : decode b_Trial_begin 16 = .ok (.iconst (-1), 1) := by decide +kernel
theorem d_Trial_begin_17 : decode b_Trial_begin 17 = .ok (.putfield 37, 3) := by decide +kernel
theorem d_Trial_begin_20 : decode b_Trial_begin 20 = .ok (.aload_n 0, 1) := by decide +kernel
theorem d_Trial_begin_21 : decode b_Trial_begin 21 = .ok (.getfield 12, 3) := by decide +kernel
theorem d_Trial_begin_24 : decode b_Trial_begin 24 = .ok (.invokevirtual 127, 3) := by decide +kernel
theorem d_Trial_begin_27 : decode b_Trial_begin 27 = .ok (.aload_n 0, 1) := by decide +kernel
theorem d_Trial_begin_28 : decode b_Trial_begin 28 = .ok (.getfield 18, 3) := by decide +kernel
theorem d_Trial_begin_31 : decode b_Trial_begin 31 = .ok (.invokevirtual 127, 3) := by decide +kernel
theorem d_Trial_begin_34 : decode b_Trial_begin 34 = .ok (.aload_n 0, 1) := by decide +kernel
theorem d_Trial_begin_35 : decode b_Trial_begin 35 = .ok (.getfield 26, 3) := by decide +kernel
theorem d_Trial_begin_38 : decode b_Trial_begin 38 = .ok (.invokevirtual 130, 3) := by decide +kernel
theorem d_Trial_begin_41 : decode b_Trial_begin 41 = .ok (.aload_n 0, 1) := by decide +kernel
theorem d_Trial_begin_42 : decode b_Trial_begin 42 = .ok (.getfield 30, 3) := by decide +kernel
theorem d_Trial_begin_45 : decode b_Trial_begin 45 = .ok (.invokevirtual 130, 3) := by decide +kernel
theorem d_Trial_begin_48 : decode b_Trial_begin 48 = .ok (.return_, 1) := by decide +kernel
theorem d_G_isOfOneThing_0 : decode b_G_isOfOneThing 0 = .ok (.iload_n 0, 1) := by decide +kernel
theorem d_G_isOfOneThing_1 : decode b_G_isOfOneThing 1 = .ok (.iconst 2, 1) := by decide +kernel
theorem d_G_isOfOneThing_2 : decode b_G_isOfOneThing 2 = .ok (.if_icmp .lt 12, 3) := by decide +kernel
theorem d_G_isOfOneThing_5 : decode b_G_isOfOneThing 5 = .ok (.iload_n 0, 1) := by decide +kernel
theorem d_G_isOfOneThing_6 : decode b_G_isOfOneThing 6 = .ok (.iconst 5, 1) := by decide +kernel
theorem d_G_isOfOneThing_7 : decode b_G_isOfOneThing 7 = .ok (.if_icmp .gt 7, 3) := by decide +kernel
theorem d_G_isOfOneThing_10 : decode b_G_isOfOneThing 10 = .ok (.iconst 1, 1) := by decide +kernel
theorem d_G_isOfOneThing_11 : decode b_G_isOfOneThing 11 = .ok (.goto 4, 3) := by decide +kernel
theorem d_G_isOfOneThing_14 : decode b_G_isOfOneThing 14 = .ok (.iconst 0, 1) := by decide +kernel
theorem d_G_isOfOneThing_15 : decode b_G_isOfOneThing 15 = .ok (.ireturn, 1) := by decide +kernel
theorem d_Trial_fail_0 : decode b_Trial_fail 0 = .ok (.aload_n 0, 1) := by decide +kernel
theorem d_Trial_fail_1 : decode b_Trial_fail 1 = .ok (.iload_n 1, 1) := by decide +kernel
theorem d_Trial_fail_2 : decode b_Trial_fail 2 = .ok (.putfield 76, 3) := by decide +kernel
theorem d_Trial_fail_5 : decode b_Trial_fail 5 = .ok (.aload_n 0, 1) := by decide +kernel
theorem d_Trial_fail_6 : decode b_Trial_fail 6 = .ok (.iload_n 2, 1) := by decide +kernel
theorem d_Trial_fail_7 : decode b_Trial_fail 7 = .ok (.putfield 37, 3) := by decide +kernel
theorem d_Trial_fail_10 : decode b_Trial_fail 10 = .ok (.return_, 1) := by decide +kernel
theorem d_Trial_takeOut_0 : decode b_Trial_takeOut 0 = .ok (.aload_n 1, 1) := by decide +kernel
theorem d_Trial_takeOut_1 : decode b_Trial_takeOut 1 = .ok (.getfield 64, 3) := by decide +kernel
theorem d_Trial_takeOut_4 : decode b_Trial_takeOut 4 = .ok (.bipush 8, 2) := by decide +kernel
theorem d_Trial_takeOut_6 : decode b_Trial_takeOut 6 = .ok (.if_icmp .ne 13, 3) := by decide +kernel
theorem d_Trial_takeOut_9 : decode b_Trial_takeOut 9 = .ok (.aload_n 2, 1) := by decide +kernel
theorem d_Trial_takeOut_10 : decode b_Trial_takeOut 10 = .ok (.getfield 64, 3) := by decide +kernel
theorem d_Trial_takeOut_13 : decode b_Trial_takeOut 13 = .ok (.invokestatic 108, 3) := by decide +kernel
theorem d_Trial_takeOut_16 : decode b_Trial_takeOut 16 = .ok (.ifCond .ne 4, 3) := by decide +kernel
theorem d_Trial_takeOut_19 : decode b_Trial_takeOut 19 = .ok (.return_, 1) := by decide +kernel
theorem d_Trial_takeOut_20 : decode b_Trial_takeOut 20 = .ok (.aload_n 1, 1) := by decide +kernel
theorem d_Trial_takeOut_21 : decode b_Trial_takeOut 21 = .ok (.astore_n 3, 1) := by decide +kernel
theorem d_Trial_takeOut_22 : decode b_Trial_takeOut 22 = .ok (.aload_n 3, 1) := by decide +kernel
theorem d_Trial_takeOut_23 : decode b_Trial_takeOut 23 = .ok (.aload_n 3, 1) := by decide +kernel
theorem d_Trial_takeOut_24 : decode b_Trial_takeOut 24 = .ok (.getfield 159, 3) := by decide +kernel
theorem d_Trial_takeOut_27 : decode b_Trial_takeOut 27 = .ok (.aload_n 2, 1) := by decide +kernel
theorem d_Trial_takeOut_28 : decode b_Trial_takeOut 28 = .ok (.getfield 159, 3) := by decide +kernel
theorem d_Trial_takeOut_31 : decode b_Trial_takeOut 31 = .ok (.ldc2_w 192, 3) := by decide +kernel
theorem d_Trial_takeOut_34 : decode b_Trial_takeOut 34 = .ok (.lxor, 1) := by decide +kernel
theorem d_Trial_takeOut_35 : decode b_Trial_takeOut 35 = .ok (.land, 1) := by decide +kernel
theorem d_Trial_takeOut_36 : decode b_Trial_takeOut 36 = .ok (.dup2_x1, 1) := by decide +kernel
theorem d_Trial_takeOut_37 : decode b_Trial_takeOut 37 = .ok (.putfield 159, 3) := by decide +kernel
theorem d_Trial_takeOut_40 : decode b_Trial_takeOut 40 = .ok (.pop2, 1) := by decide +kernel
theorem d_Trial_takeOut_41 : decode b_Trial_takeOut 41 = .ok (.aload_n 1, 1) := by decide +kernel
theorem d_Trial_takeOut_42 : decode b_Trial_takeOut 42 = .ok (.getfield 159, 3) := by decide +kernel
theorem d_Trial_takeOut_45 : decode b_Trial_takeOut 45 = .ok (.lconst 0, 1) := by decide +kernel
theorem d_Trial_takeOut_46 : decode b_Trial_takeOut 46 = .ok (.lcmp, 1) := by decide +kernel
theorem d_Trial_takeOut_47 : decode b_Trial_takeOut 47 = .ok (.ifCond .ne 13, 3) := by decide +kernel
theorem d_Trial_takeOut_50 : decode b_Trial_takeOut 50 = .ok (.aload_n 0, 1) := by decide +kernel
theorem d_Trial_takeOut_51 : decode b_Trial_takeOut 51 = .ok (.bipush 14, 2) := by decide +kernel
theorem d_Trial_takeOut_53 : decode b_Trial_takeOut 53 = .ok (.aload_n 1, 1) := by decide +kernel
theorem d_Trial_takeOut_54 : decode b_Trial_takeOut 54 = .ok (.getfield 131, 3) := by decide +kernel
theorem d_Trial_takeOut_57 : decode b_Trial_takeOut 57 = .ok (.invokevirtual 136, 3) := by decide +kernel
theorem d_Trial_takeOut_60 : decode b_Trial_takeOut 60 = .ok (.return_, 1) := by decide +kernel
theorem d_Row_addThings_0 : decode b_Row_addThings 0 = .ok (.iconst 0, 1) := by decide +kernel
theorem d_Row_addThings_1 : decode b_Row_addThings 1 = .ok (.istore_n 3, 1) := by decide +kernel
theorem d_Row_addThings_2 : decode b_Row_addThings 2 = .ok (.iload_n 3, 1) := by decide +kernel
theorem d_Row_addThings_3 : decode b_Row_addThings 3 = .ok (.bipush 40, 2) := by decide +kernel
theorem d_Row_addThings_5 : decode b_Row_addThings 5 = .ok (.if_icmp .ge 24, 3) := by decide +kernel
theorem d_Row_addThings_8 : decode b_Row_addThings 8 = .ok (.lload_n 1, 1) := by decide +kernel
theorem d_Row_addThings_9 : decode b_Row_addThings 9 = .ok (.iload_n 3, 1) := by decide +kernel
theorem d_Row_addThings_10 : decode b_Row_addThings 10 = .ok (.lshr, 1) := by decide +kernel
theorem d_Row_addThings_11 : decode b_Row_addThings 11 = .ok (.lconst 1, 1) := by decide +kernel
theorem d_Row_addThings_12 : decode b_Row_addThings 12 = .ok (.land, 1) := by decide +kernel
theorem d_Row_addThings_13 : decode b_Row_addThings 13 = .ok (.lconst 0, 1) := by decide +kernel
theorem d_Row_addThings_14 : decode b_Row_addThings 14 = .ok (.lcmp, 1) := by decide +kernel
theorem d_Row_addThings_15 : decode b_Row_addThings 15 = .ok (.ifCond .eq 8, 3) := by decide +kernel
theorem d_Row_addThings_18 : decode b_Row_addThings 18 = .ok (.aload_n 0, 1) := by decide +kernel
theorem d_Row_addThings_19 : decode b_Row_addThings 19 = .ok (.iload_n 3, 1) := by decide +kernel
theorem d_Row_addThings_20 : decode b_Row_addThings 20 = .ok (.invokevirtual 31, 3) := by decide +kernel
theorem d_Row_addThings_23 : decode b_Row_addThings 23 = .ok (.iinc 3 1, 3) := by decide +kernel
theorem d_Row_addThings_26 : decode b_Row_addThings 26 = .ok (.goto (-24), 3) := by decide +kernel
theorem d_Row_addThings_29 : decode b_Row_addThings 29 = .ok (.return_, 1) := by decide +kernel
theorem d_Trial_finish_0 : decode b_Trial_finish 0 = .ok (.aload_n 0, 1) := by decide +kernel
theorem d_Trial_finish_1 : decode b_Trial_finish 1 = .ok (.getfield 83, 3) := by decide +kernel
theorem d_Trial_finish_4 : decode b_Trial_finish 4 = .ok (.aload_n 0, 1) := by decide +kernel
theorem d_Trial_finish_5 : decode b_Trial_finish 5 = .ok (.getfield 52, 3) := by decide +kernel
theorem d_Trial_finish_8 : decode b_Trial_finish 8 = .ok (.invokevirtual 86, 3) := by decide +kernel
theorem d_Trial_finish_11 : decode b_Trial_finish 11 = .ok (.if_icmp .ge 14, 3) := by decide +kernel
theorem d_Trial_finish_14 : decode b_Trial_finish 14 = .ok (.aload_n 0, 1) := by decide +kernel
theorem d_Trial_finish_15 : decode b_Trial_finish 15 = .ok (.bipush 6, 2) := by decide +kernel
theorem d_Trial_finish_17 : decode b_Trial_finish 17 = .ok (.aload_n 0, 1) := by decide +kernel
theorem d_Trial_finish_18 : decode b_Trial_finish 18 = .ok (.getfield 83, 3) := by decide +kernel
theorem d_Trial_finish_21 : decode b_Trial_finish 21 = .ok (.invokevirtual 136, 3) := by decide +kernel
theorem d_Trial_finish_24 : decode b_Trial_finish 24 = .ok (.return_, 1) := by decide +kernel
theorem d_Trial_finish_25 : decode b_Trial_finish 25 = .ok (.aload_n 0, 1) := by decide +kernel
theorem d_Trial_finish_26 : decode b_Trial_finish 26 = .ok (.aload_n 0, 1) := by decide +kernel
theorem d_Trial_finish_27 : decode b_Trial_finish 27 = .ok (.getfield 12, 3) := by decide +kernel
theorem d_Trial_finish_30 : decode b_Trial_finish 30 = .ok (.aload_n 0, 1) := by decide +kernel
theorem d_Trial_finish_31 : decode b_Trial_finish 31 = .ok (.getfield 18, 3) := by decide +kernel
theorem d_Trial_finish_34 : decode b_Trial_finish 34 = .ok (.invokevirtual 209, 3) := by decide +kernel
theorem d_Trial_finish_37 : decode b_Trial_finish 37 = .ok (.aload_n 0, 1) := by decide +kernel
theorem d_Trial_finish_38 : decode b_Trial_finish 38 = .ok (.aload_n 0, 1) := by decide +kernel
theorem d_Trial_finish_39 : decode b_Trial_finish 39 = .ok (.getfield 18, 3) := by decide +kernel
theorem d_Trial_finish_42 : decode b_Trial_finish 42 = .ok (.aload_n 0, 1) := by decide +kernel
theorem d_Trial_finish_43 : decode b_Trial_finish 43 = .ok (.getfield 12, 3) := by decide +kernel
theorem d_Trial_finish_46 : decode b_Trial_finish 46 = .ok (.invokevirtual 209, 3) := by decide +kernel
theorem d_Trial_finish_49 : decode b_Trial_finish 49 = .ok (.aload_n 0, 1) := by decide +kernel
theorem d_Trial_finish_50 : decode b_Trial_finish 50 = .ok (.getfield 12, 3) := by decide +kernel
theorem d_Trial_finish_53 : decode b_Trial_finish 53 = .ok (.getfield 144, 3) := by decide +kernel
theorem d_Trial_finish_56 : decode b_Trial_finish 56 = .ok (.aload_n 0, 1) := by decide +kernel
theorem d_Trial_finish_57 : decode b_Trial_finish 57 = .ok (.getfield 12, 3) := by decide +kernel
theorem d_Trial_finish_60 : decode b_Trial_finish 60 = .ok (.getfield 159, 3) := by decide +kernel
theorem d_Trial_finish_63 : decode b_Trial_finish 63 = .ok (.invokevirtual 182, 3) := by decide +kernel
theorem d_Trial_finish_66 : decode b_Trial_finish 66 = .ok (.aload_n 0, 1) := by decide +kernel
theorem d_Trial_finish_67 : decode b_Trial_finish 67 = .ok (.getfield 18, 3) := by decide +kernel
theorem d_Trial_finish_70 : decode b_Trial_finish 70 = .ok (.getfield 144, 3) := by decide +kernel
theorem d_Trial_finish_73 : decode b_Trial_finish 73 = .ok (.aload_n 0, 1) := by decide +kernel
theorem d_Trial_finish_74 : decode b_Trial_finish 74 = .ok (.getfield 18, 3) := by decide +kernel
theorem d_Trial_finish_77 : decode b_Trial_finish 77 = .ok (.getfield 159, 3) := by decide +kernel
theorem d_Trial_finish_80 : decode b_Trial_finish 80 = .ok (.invokevirtual 182, 3) := by decide +kernel
theorem d_Trial_finish_83 : decode b_Trial_finish 83 = .ok (.return_, 1) := by decide +kernel
theorem d_Trial_openSlot_0 : decode b_Trial_openSlot 0 = .ok (.aload_n 0, 1) := by decide +kernel
theorem d_Trial_openSlot_1 : decode b_Trial_openSlot 1 = .ok (.getfield 12, 3) := by decide +kernel
theorem d_Trial_openSlot_4 : decode b_Trial_openSlot 4 = .ok (.getfield 64, 3) := by decide +kernel
theorem d_Trial_openSlot_7 : decode b_Trial_openSlot 7 = .ok (.iconst (-1), 1) := by decide +kernel
theorem d_Trial_openSlot_8 : decode b_Trial_openSlot 8 = .ok (.if_icmp .ne 10, 3) := by decide +kernel
theorem d_Trial_openSlot_11 : decode b_Trial_openSlot 11 = .ok (.aload_n 0, 1) := by decide +kernel
theorem d_Trial_openSlot_12 : decode b_Trial_openSlot 12 = .ok (.getfield 12, 3) := by decide +kernel
theorem d_Trial_openSlot_15 : decode b_Trial_openSlot 15 = .ok (.goto 7, 3) := by decide +kernel
theorem d_Trial_openSlot_18 : decode b_Trial_openSlot 18 = .ok (.aload_n 0, 1) := by decide +kernel
theorem d_Trial_openSlot_19 : decode b_Trial_openSlot 19 = .ok (.getfield 18, 3) := by decide +kernel
theorem d_Trial_openSlot_22 : decode b_Trial_openSlot 22 = .ok (.astore_n 2, 1) := by decide +kernel
theorem d_Trial_openSlot_23 : decode b_Trial_openSlot 23 = .ok (.aload_n 2, 1) := by decide +kernel
theorem d_Trial_openSlot_24 : decode b_Trial_openSlot 24 = .ok (.iload_n 1, 1) := by decide +kernel
theorem d_Trial_openSlot_25 : decode b_Trial_openSlot 25 = .ok (.putfield 64, 3) := by decide +kernel
theorem d_Trial_openSlot_28 : decode b_Trial_openSlot 28 = .ok (.aload_n 2, 1) := by decide +kernel
theorem d_Trial_openSlot_29 : decode b_Trial_openSlot 29 = .ok (.aload_n 0, 1) := by decide +kernel
theorem d_Trial_openSlot_30 : decode b_Trial_openSlot 30 = .ok (.getfield 83, 3) := by decide +kernel
theorem d_Trial_openSlot_33 : decode b_Trial_openSlot 33 = .ok (.putfield 131, 3) := by decide +kernel
theorem d_Trial_openSlot_36 : decode b_Trial_openSlot 36 = .ok (.aload_n 2, 1) := by decide +kernel
theorem d_Trial_openSlot_37 : decode b_Trial_openSlot 37 = .ok (.areturn, 1) := by decide +kernel
theorem d_Things_countedFor_0 : decode b_Things_countedFor 0 = .ok (.iload_n 1, 1) := by decide +kernel
theorem d_Things_countedFor_1 : decode b_Things_countedFor 1 = .ok (.tableswitch 42 3 5 #[27, 32, 37], 27) := by decide +kernel
theorem d_Things_countedFor_28 : decode b_Things_countedFor 28 = .ok (.aload_n 0, 1) := by decide +kernel
theorem d_Things_countedFor_29 : decode b_Things_countedFor 29 = .ok (.getfield 45, 3) := by decide +kernel
theorem d_Things_countedFor_32 : decode b_Things_countedFor 32 = .ok (.lreturn, 1) := by decide +kernel
theorem d_Things_countedFor_33 : decode b_Things_countedFor 33 = .ok (.aload_n 0, 1) := by decide +kernel
theorem d_Things_countedFor_34 : decode b_Things_countedFor 34 = .ok (.getfield 48, 3) := by decide +kernel
theorem d_Things_countedFor_37 : decode b_Things_countedFor 37 = .ok (.lreturn, 1) := by decide +kernel
theorem d_Things_countedFor_38 : decode b_Things_countedFor 38 = .ok (.aload_n 0, 1) := by decide +kernel
theorem d_Things_countedFor_39 : decode b_Things_countedFor 39 = .ok (.getfield 51, 3) := by decide +kernel
theorem d_Things_countedFor_42 : decode b_Things_countedFor 42 = .ok (.lreturn, 1) := by decide +kernel
theorem d_Things_countedFor_43 : decode b_Things_countedFor 43 = .ok (.aload_n 0, 1) := by decide +kernel
theorem d_Things_countedFor_44 : decode b_Things_countedFor 44 = .ok (.getfield 41, 3) := by decide +kernel
theorem d_Things_countedFor_47 : decode b_Things_countedFor 47 = .ok (.lreturn, 1) := by decide +kernel
theorem d_Trial_findOne_0 : decode b_Trial_findOne 0 = .ok (.aload_n 0, 1) := by decide +kernel
theorem d_Trial_findOne_1 : decode b_Trial_findOne 1 = .ok (.getfield 52, 3) := by decide +kernel
theorem d_Trial_findOne_4 : decode b_Trial_findOne 4 = .ok (.aload_n 0, 1) := by decide +kernel
theorem d_Trial_findOne_5 : decode b_Trial_findOne 5 = .ok (.getfield 83, 3) := by decide +kernel
theorem d_Trial_findOne_8 : decode b_Trial_findOne 8 = .ok (.invokevirtual 115, 3) := by decide +kernel
theorem d_Trial_findOne_11 : decode b_Trial_findOne 11 = .ok (.iconst 4, 1) := by decide +kernel
theorem d_Trial_findOne_12 : decode b_Trial_findOne 12 = .ok (.if_icmp .ne 15, 3) := by decide +kernel
theorem d_Trial_findOne_15 : decode b_Trial_findOne 15 = .ok (.aload_n 0, 1) := by decide +kernel
theorem d_Trial_findOne_16 : decode b_Trial_findOne 16 = .ok (.bipush 13, 2) := by decide +kernel
theorem d_Trial_findOne_18 : decode b_Trial_findOne 18 = .ok (.aload_n 0, 1) := by decide +kernel
theorem d_Trial_findOne_19 : decode b_Trial_findOne 19 = .ok (.getfield 83, 3) := by decide +kernel
theorem d_Trial_findOne_22 : decode b_Trial_findOne 22 = .ok (.invokevirtual 136, 3) := by decide +kernel
theorem d_Trial_findOne_25 : decode b_Trial_findOne 25 = .ok (.lconst 0, 1) := by decide +kernel
theorem d_Trial_findOne_26 : decode b_Trial_findOne 26 = .ok (.lreturn, 1) := by decide +kernel
theorem d_Trial_findOne_27 : decode b_Trial_findOne 27 = .ok (.aload_n 0, 1) := by decide +kernel
theorem d_Trial_findOne_28 : decode b_Trial_findOne 28 = .ok (.getfield 60, 3) := by decide +kernel
theorem d_Trial_findOne_31 : decode b_Trial_findOne 31 = .ok (.aload_n 0, 1) := by decide +kernel
theorem d_Trial_findOne_32 : decode b_Trial_findOne 32 = .ok (.getfield 52, 3) := by decide +kernel
theorem d_Trial_findOne_35 : decode b_Trial_findOne 35 = .ok (.aload_n 0, 1) := by decide +kernel
theorem d_Trial_findOne_36 : decode b_Trial_findOne 36 = .ok (.getfield 83, 3) := by decide +kernel
theorem d_Trial_findOne_39 : decode b_Trial_findOne 39 = .ok (.invokevirtual 165, 3) := by decide +kernel
theorem d_Trial_findOne_42 : decode b_Trial_findOne 42 = .ok (.ifCond .ne 15, 3) := by decide +kernel
theorem d_Trial_findOne_45 : decode b_Trial_findOne 45 = .ok (.aload_n 0, 1) := by decide +kernel
theorem d_Trial_findOne_46 : decode b_Trial_findOne 46 = .ok (.bipush 7, 2) := by decide +kernel
theorem d_Trial_findOne_48 : decode b_Trial_findOne 48 = .ok (.aload_n 0, 1) := by decide +kernel
theorem d_Trial_findOne_49 : decode b_Trial_findOne 49 = .ok (.getfield 83, 3) := by decide +kernel
theorem d_Trial_findOne_52 : decode b_Trial_findOne 52 = .ok (.invokevirtual 136, 3) := by decide +kernel
theorem d_Trial_findOne_55 : decode b_Trial_findOne 55 = .ok (.lconst 0, 1) := by decide +kernel
theorem d_Trial_findOne_56 : decode b_Trial_findOne 56 = .ok (.lreturn, 1) := by decide +kernel
theorem d_Trial_findOne_57 : decode b_Trial_findOne 57 = .ok (.aload_n 0, 1) := by decide +kernel
theorem d_Trial_findOne_58 : decode b_Trial_findOne 58 = .ok (.getfield 60, 3) := by decide +kernel
theorem d_Trial_findOne_61 : decode b_Trial_findOne 61 = .ok (.getfield 168, 3) := by decide +kernel
theorem d_Trial_findOne_64 : decode b_Trial_findOne 64 = .ok (.aload_n 0, 1) := by decide +kernel
theorem d_Trial_findOne_65 : decode b_Trial_findOne 65 = .ok (.getfield 40, 3) := by decide +kernel
theorem d_Trial_findOne_68 : decode b_Trial_findOne 68 = .ok (.iload_n 1, 1) := by decide +kernel
theorem d_Trial_findOne_69 : decode b_Trial_findOne 69 = .ok (.invokevirtual 171, 3) := by decide +kernel
theorem d_Trial_findOne_72 : decode b_Trial_findOne 72 = .ok (.land, 1) := by decide +kernel
theorem d_Trial_findOne_73 : decode b_Trial_findOne 73 = .ok (.lstore_n 2, 1) := by decide +kernel
theorem d_Trial_findOne_74 : decode b_Trial_findOne 74 = .ok (.lload_n 2, 1) := by decide +kernel
theorem d_Trial_findOne_75 : decode b_Trial_findOne 75 = .ok (.lconst 0, 1) := by decide +kernel
theorem d_Trial_findOne_76 : decode b_Trial_findOne 76 = .ok (.lcmp, 1) := by decide +kernel
theorem d_Trial_findOne_77 : decode b_Trial_findOne 77 = .ok (.ifCond .ne 35, 3) := by decide +kernel
theorem d_Trial_findOne_80 : decode b_Trial_findOne 80 = .ok (.aload_n 0, 1) := by decide +kernel
theorem d_Trial_findOne_81 : decode b_Trial_findOne 81 = .ok (.iload_n 1, 1) := by decide +kernel
theorem d_Trial_findOne_82 : decode b_Trial_findOne 82 = .ok (.iconst 3, 1) := by decide +kernel
theorem d_Trial_findOne_83 : decode b_Trial_findOne 83 = .ok (.if_icmp .ne 8, 3) := by decide +kernel
theorem d_Trial_findOne_86 : decode b_Trial_findOne 86 = .ok (.bipush 11, 2) := by decide +kernel
theorem d_Trial_findOne_88 : decode b_Trial_findOne 88 = .ok (.goto 15, 3) := by decide +kernel
theorem d_Trial_findOne_91 : decode b_Trial_findOne 91 = .ok (.iload_n 1, 1) := by decide +kernel
theorem d_Trial_findOne_92 : decode b_Trial_findOne 92 = .ok (.iconst 4, 1) := by decide +kernel
theorem d_Trial_findOne_93 : decode b_Trial_findOne 93 = .ok (.if_icmp .ne 8, 3) := by decide +kernel
theorem d_Trial_findOne_96 : decode b_Trial_findOne 96 = .ok (.bipush 12, 2) := by decide +kernel
theorem d_Trial_findOne_98 : decode b_Trial_findOne 98 = .ok (.goto 5, 3) := by decide +kernel
theorem d_Trial_findOne_101 : decode b_Trial_findOne 101 = .ok (.bipush 10, 2) := by decide +kernel
theorem d_Trial_findOne_103 : decode b_Trial_findOne 103 = .ok (.aload_n 0, 1) := by decide +kernel
theorem d_Trial_findOne_104 : decode b_Trial_findOne 104 = .ok (.getfield 83, 3) := by decide +kernel
theorem d_Trial_findOne_107 : decode b_Trial_findOne 107 = .ok (.invokevirtual 136, 3) := by decide +kernel
theorem d_Trial_findOne_110 : decode b_Trial_findOne 110 = .ok (.lconst 0, 1) := by decide +kernel
theorem d_Trial_findOne_111 : decode b_Trial_findOne 111 = .ok (.lreturn, 1) := by decide +kernel
theorem d_Trial_findOne_112 : decode b_Trial_findOne 112 = .ok (.lload_n 2, 1) := by decide +kernel
theorem d_Trial_findOne_113 : decode b_Trial_findOne 113 = .ok (.invokestatic 176, 3) := by decide +kernel
theorem d_Trial_findOne_116 : decode b_Trial_findOne 116 = .ok (.iconst 1, 1) := by decide +kernel
theorem d_Trial_findOne_117 : decode b_Trial_findOne 117 = .ok (.if_icmp .le 23, 3) := by decide +kernel
theorem d_Trial_findOne_120 : decode b_Trial_findOne 120 = .ok (.aload_n 0, 1) := by decide +kernel
theorem d_Trial_findOne_121 : decode b_Trial_findOne 121 = .ok (.getfield 30, 3) := by decide +kernel
theorem d_Trial_findOne_124 : decode b_Trial_findOne 124 = .ok (.lload_n 2, 1) := by decide +kernel
theorem d_Trial_findOne_125 : decode b_Trial_findOne 125 = .ok (.invokevirtual 182, 3) := by decide +kernel
theorem d_Trial_findOne_128 : decode b_Trial_findOne 128 = .ok (.aload_n 0, 1) := by decide +kernel
theorem d_Trial_findOne_129 : decode b_Trial_findOne 129 = .ok (.bipush 15, 2) := by decide +kernel
theorem d_Trial_findOne_131 : decode b_Trial_findOne 131 = .ok (.aload_n 0, 1) := by decide +kernel
theorem d_Trial_findOne_132 : decode b_Trial_findOne 132 = .ok (.getfield 83, 3) := by decide +kernel
theorem d_Trial_findOne_135 : decode b_Trial_findOne 135 = .ok (.invokevirtual 136, 3) := by decide +kernel
theorem d_Trial_findOne_138 : decode b_Trial_findOne 138 = .ok (.lconst 0, 1) := by decide +kernel
theorem d_Trial_findOne_139 : decode b_Trial_findOne 139 = .ok (.lreturn, 1) := by decide +kernel
theorem d_Trial_findOne_140 : decode b_Trial_findOne 140 = .ok (.aload_n 0, 1) := by decide +kernel
theorem d_Trial_findOne_141 : decode b_Trial_findOne 141 = .ok (.aload_n 0, 1) := by decide +kernel
theorem d_Trial_findOne_142 : decode b_Trial_findOne 142 = .ok (.getfield 60, 3) := by decide +kernel
theorem d_Trial_findOne_145 : decode b_Trial_findOne 145 = .ok (.getfield 186, 3) := by decide +kernel
theorem d_Trial_findOne_148 : decode b_Trial_findOne 148 = .ok (.putfield 83, 3) := by decide +kernel
theorem d_Trial_findOne_151 : decode b_Trial_findOne 151 = .ok (.lload_n 2, 1) := by decide +kernel
theorem d_Trial_findOne_152 : decode b_Trial_findOne 152 = .ok (.lreturn, 1) := by decide +kernel
theorem d_Trial_takeList_0 : decode b_Trial_takeList 0 = .ok (.aload_n 0, 1) := by decide +kernel
theorem d_Trial_takeList_1 : decode b_Trial_takeList 1 = .ok (.iload_n 1, 1) := by decide +kernel
theorem d_Trial_takeList_2 : decode b_Trial_takeList 2 = .ok (.invokevirtual 140, 3) := by decide +kernel
theorem d_Trial_takeList_5 : decode b_Trial_takeList 5 = .ok (.astore_n 2, 1) := by decide +kernel
theorem d_Trial_takeList_6 : decode b_Trial_takeList 6 = .ok (.iload_n 1, 1) := by decide +kernel
theorem d_Trial_takeList_7 : decode b_Trial_takeList 7 = .ok (.bipush 6, 2) := by decide +kernel
theorem d_Trial_takeList_9 : decode b_Trial_takeList 9 = .ok (.if_icmp .ne 7, 3) := by decide +kernel
theorem d_Trial_takeList_12 : decode b_Trial_takeList 12 = .ok (.iconst 2, 1) := by decide +kernel
theorem d_Trial_takeList_13 : decode b_Trial_takeList 13 = .ok (.goto 4, 3) := by decide +kernel
theorem d_Trial_takeList_16 : decode b_Trial_takeList 16 = .ok (.iconst 3, 1) := by decide +kernel
theorem d_Trial_takeList_17 : decode b_Trial_takeList 17 = .ok (.istore_n 3, 1) := by decide +kernel
theorem d_Trial_takeList_18 : decode b_Trial_takeList 18 = .ok (.iconst 1, 1) := by decide +kernel
theorem d_Trial_takeList_19 : decode b_Trial_takeList 19 = .ok (.istore 4, 2) := by decide +kernel
theorem d_Trial_takeList_21 : decode b_Trial_takeList 21 = .ok (.iconst 0, 1) := by decide +kernel
theorem d_Trial_takeList_22 : decode b_Trial_takeList 22 = .ok (.istore 5, 2) := by decide +kernel
theorem d_Trial_takeList_24 : decode b_Trial_takeList 24 = .ok (.iload 4, 2) := by decide +kernel
theorem d_Trial_takeList_26 : decode b_Trial_takeList 26 = .ok (.ifCond .eq 76, 3) := by decide +kernel
theorem d_Trial_takeList_29 : decode b_Trial_takeList 29 = .ok (.iload 5, 2) := by decide +kernel
theorem d_Trial_takeList_31 : decode b_Trial_takeList 31 = .ok (.bipush 60, 2) := by decide +kernel
theorem d_Trial_takeList_33 : decode b_Trial_takeList 33 = .ok (.if_icmp .ge 69, 3) := by decide +kernel
theorem d_Trial_takeList_36 : decode b_Trial_takeList 36 = .ok (.aload_n 2, 1) := by decide +kernel
theorem d_Trial_takeList_37 : decode b_Trial_takeList 37 = .ok (.dup, 1) := by decide +kernel
theorem d_Trial_takeList_38 : decode b_Trial_takeList 38 = .ok (.getfield 159, 3) := by decide +kernel
theorem d_Trial_takeList_41 : decode b_Trial_takeList 41 = .ok (.aload_n 0, 1) := by decide +kernel
theorem d_Trial_takeList_42 : decode b_Trial_takeList 42 = .ok (.iload_n 3, 1) := by decide +kernel
theorem d_Trial_takeList_43 : decode b_Trial_takeList 43 = .ok (.invokevirtual 155, 3) := by decide +kernel
theorem d_Trial_takeList_46 : decode b_Trial_takeList 46 = .ok (.lor, 1) := by decide +kernel
theorem d_Trial_takeList_47 : decode b_Trial_takeList 47 = .ok (.putfield 159, 3) := by decide +kernel
theorem d_Trial_takeList_50 : decode b_Trial_takeList 50 = .ok (.aload_n 0, 1) := by decide +kernel
theorem d_Trial_takeList_51 : decode b_Trial_takeList 51 = .ok (.getfield 76, 3) := by decide +kernel
theorem d_Trial_takeList_54 : decode b_Trial_takeList 54 = .ok (.ifCond .ne 24, 3) := by decide +kernel
theorem d_Trial_takeList_57 : decode b_Trial_takeList 57 = .ok (.aload_n 0, 1) := by decide +kernel
theorem d_Trial_takeList_58 : decode b_Trial_takeList 58 = .ok (.getfield 52, 3) := by decide +kernel
theorem d_Trial_takeList_61 : decode b_Trial_takeList 61 = .ok (.aload_n 0, 1) := by decide +kernel
theorem d_Trial_takeList_62 : decode b_Trial_takeList 62 = .ok (.getfield 83, 3) := by decide +kernel
theorem d_Trial_takeList_65 : decode b_Trial_takeList 65 = .ok (.invokevirtual 115, 3) := by decide +kernel
theorem d_Trial_takeList_68 : decode b_Trial_takeList 68 = .ok (.invokestatic 162, 3) := by decide +kernel
theorem d_Trial_takeList_71 : decode b_Trial_takeList 71 = .ok (.ifCond .eq 7, 3) := by decide +kernel
theorem d_Trial_takeList_74 : decode b_Trial_takeList 74 = .ok (.iconst 1, 1) := by decide +kernel
theorem d_Trial_takeList_75 : decode b_Trial_takeList 75 = .ok (.goto 4, 3) := by decide +kernel
theorem d_Trial_takeList_78 : decode b_Trial_takeList 78 = .ok (.iconst 0, 1) := by decide +kernel
theorem d_Trial_takeList_79 : decode b_Trial_takeList 79 = .ok (.istore 4, 2) := by decide +kernel
theorem d_Trial_takeList_81 : decode b_Trial_takeList 81 = .ok (.iload 4, 2) := by decide +kernel
theorem d_Trial_takeList_83 : decode b_Trial_takeList 83 = .ok (.ifCond .eq 13, 3) := by decide +kernel
theorem d_Trial_takeList_86 : decode b_Trial_takeList 86 = .ok (.aload_n 0, 1) := by decide +kernel
theorem d_Trial_takeList_87 : decode b_Trial_takeList 87 = .ok (.dup, 1) := by decide +kernel
theorem d_Trial_takeList_88 : decode b_Trial_takeList 88 = .ok (.getfield 83, 3) := by decide +kernel
theorem d_Trial_takeList_91 : decode b_Trial_takeList 91 = .ok (.iconst 1, 1) := by decide +kernel
theorem d_Trial_takeList_92 : decode b_Trial_takeList 92 = .ok (.iadd, 1) := by decide +kernel
theorem d_Trial_takeList_93 : decode b_Trial_takeList 93 = .ok (.putfield 83, 3) := by decide +kernel
theorem d_Trial_takeList_96 : decode b_Trial_takeList 96 = .ok (.iinc 5 1, 3) := by decide +kernel
theorem d_Trial_takeList_99 : decode b_Trial_takeList 99 = .ok (.goto (-75), 3) := by decide +kernel
theorem d_Trial_takeList_102 : decode b_Trial_takeList 102 = .ok (.return_, 1) := by decide +kernel
theorem d_Things_allFor_0 : decode b_Things_allFor 0 = .ok (.iload_n 1, 1) := by decide +kernel
theorem d_Things_allFor_1 : decode b_Things_allFor 1 = .ok (.bipush 6, 2) := by decide +kernel
theorem d_Things_allFor_3 : decode b_Things_allFor 3 = .ok (.if_icmp .ne 19, 3) := by decide +kernel
theorem d_Things_allFor_6 : decode b_Things_allFor 6 = .ok (.aload_n 0, 1) := by decide +kernel
theorem d_Things_allFor_7 : decode b_Things_allFor 7 = .ok (.getfield 41, 3) := by decide +kernel
theorem d_Things_allFor_10 : decode b_Things_allFor 10 = .ok (.aload_n 0, 1) := by decide +kernel
theorem d_Things_allFor_11 : decode b_Things_allFor 11 = .ok (.getfield 45, 3) := by decide +kernel
theorem d_Things_allFor_14 : decode b_Things_allFor 14 = .ok (.ldc2_w 62, 3) := by decide +kernel
theorem d_Things_allFor_17 : decode b_Things_allFor 17 = .ok (.lxor, 1) := by decide +kernel
theorem d_Things_allFor_18 : decode b_Things_allFor 18 = .ok (.land, 1) := by decide +kernel
theorem d_Things_allFor_19 : decode b_Things_allFor 19 = .ok (.goto 16, 3) := by decide +kernel
theorem d_Things_allFor_22 : decode b_Things_allFor 22 = .ok (.aload_n 0, 1) := by decide +kernel
theorem d_Things_allFor_23 : decode b_Things_allFor 23 = .ok (.getfield 45, 3) := by decide +kernel
theorem d_Things_allFor_26 : decode b_Things_allFor 26 = .ok (.aload_n 0, 1) := by decide +kernel
theorem d_Things_allFor_27 : decode b_Things_allFor 27 = .ok (.getfield 48, 3) := by decide +kernel
theorem d_Things_allFor_30 : decode b_Things_allFor 30 = .ok (.ldc2_w 62, 3) := by decide +kernel
theorem d_Things_allFor_33 : decode b_Things_allFor 33 = .ok (.lxor, 1) := by decide +kernel
theorem d_Things_allFor_34 : decode b_Things_allFor 34 = .ok (.land, 1) := by decide +kernel
theorem d_Things_allFor_35 : decode b_Things_allFor 35 = .ok (.lstore_n 2, 1) := by decide +kernel
theorem d_Things_allFor_36 : decode b_Things_allFor 36 = .ok (.lload_n 2, 1) := by decide +kernel
theorem d_Things_allFor_37 : decode b_Things_allFor 37 = .ok (.aload_n 0, 1) := by decide +kernel
theorem d_Things_allFor_38 : decode b_Things_allFor 38 = .ok (.getfield 51, 3) := by decide +kernel
theorem d_Things_allFor_41 : decode b_Things_allFor 41 = .ok (.ldc2_w 62, 3) := by decide +kernel
theorem d_Things_allFor_44 : decode b_Things_allFor 44 = .ok (.lxor, 1) := by decide +kernel
theorem d_Things_allFor_45 : decode b_Things_allFor 45 = .ok (.land, 1) := by decide +kernel
theorem d_Things_allFor_46 : decode b_Things_allFor 46 = .ok (.lreturn, 1) := by decide +kernel
theorem d_Trial_takeAll_0 : decode b_Trial_takeAll 0 = .ok (.aload_n 0, 1) := by decide +kernel
theorem d_Trial_takeAll_1 : decode b_Trial_takeAll 1 = .ok (.iload_n 1, 1) := by decide +kernel
theorem d_Trial_takeAll_2 : decode b_Trial_takeAll 2 = .ok (.invokevirtual 140, 3) := by decide +kernel
theorem d_Trial_takeAll_5 : decode b_Trial_takeAll 5 = .ok (.astore_n 2, 1) := by decide +kernel
theorem d_Trial_takeAll_6 : decode b_Trial_takeAll 6 = .ok (.aload_n 2, 1) := by decide +kernel
theorem d_Trial_takeAll_7 : decode b_Trial_takeAll 7 = .ok (.aload_n 0, 1) := by decide +kernel
theorem d_Trial_takeAll_8 : decode b_Trial_takeAll 8 = .ok (.getfield 40, 3) := by decide +kernel
theorem d_Trial_takeAll_11 : decode b_Trial_takeAll 11 = .ok (.iload_n 1, 1) := by decide +kernel
theorem d_Trial_takeAll_12 : decode b_Trial_takeAll 12 = .ok (.invokevirtual 189, 3) := by decide +kernel
theorem d_Trial_takeAll_15 : decode b_Trial_takeAll 15 = .ok (.putfield 159, 3) := by decide +kernel
theorem d_Trial_takeAll_18 : decode b_Trial_takeAll 18 = .ok (.aload_n 0, 1) := by decide +kernel
theorem d_Trial_takeAll_19 : decode b_Trial_takeAll 19 = .ok (.dup, 1) := by decide +kernel
theorem d_Trial_takeAll_20 : decode b_Trial_takeAll 20 = .ok (.getfield 83, 3) := by decide +kernel
theorem d_Trial_takeAll_23 : decode b_Trial_takeAll 23 = .ok (.iconst 1, 1) := by decide +kernel
theorem d_Trial_takeAll_24 : decode b_Trial_takeAll 24 = .ok (.iadd, 1) := by decide +kernel
theorem d_Trial_takeAll_25 : decode b_Trial_takeAll 25 = .ok (.putfield 83, 3) := by decide +kernel
theorem d_Trial_takeAll_28 : decode b_Trial_takeAll 28 = .ok (.aload_n 0, 1) := by decide +kernel
theorem d_Trial_takeAll_29 : decode b_Trial_takeAll 29 = .ok (.getfield 52, 3) := by decide +kernel
theorem d_Trial_takeAll_32 : decode b_Trial_takeAll 32 = .ok (.aload_n 0, 1) := by decide +kernel
theorem d_Trial_takeAll_33 : decode b_Trial_takeAll 33 = .ok (.getfield 83, 3) := by decide +kernel
theorem d_Trial_takeAll_36 : decode b_Trial_takeAll 36 = .ok (.invokevirtual 115, 3) := by decide +kernel
theorem d_Trial_takeAll_39 : decode b_Trial_takeAll 39 = .ok (.iconst 3, 1) := by decide +kernel
theorem d_Trial_takeAll_40 : decode b_Trial_takeAll 40 = .ok (.if_icmp .ne 7, 3) := by decide +kernel
theorem d_Trial_takeAll_43 : decode b_Trial_takeAll 43 = .ok (.iconst 1, 1) := by decide +kernel
theorem d_Trial_takeAll_44 : decode b_Trial_takeAll 44 = .ok (.goto 4, 3) := by decide +kernel
theorem d_Trial_takeAll_47 : decode b_Trial_takeAll 47 = .ok (.iconst 0, 1) := by decide +kernel
theorem d_Trial_takeAll_48 : decode b_Trial_takeAll 48 = .ok (.istore_n 3, 1) := by decide +kernel
theorem d_Trial_takeAll_49 : decode b_Trial_takeAll 49 = .ok (.iconst 0, 1) := by decide +kernel
theorem d_Trial_takeAll_50 : decode b_Trial_takeAll 50 = .ok (.istore 4, 2) := by decide +kernel
theorem d_Trial_takeAll_52 : decode b_Trial_takeAll 52 = .ok (.iload_n 3, 1) := by decide +kernel
theorem d_Trial_takeAll_53 : decode b_Trial_takeAll 53 = .ok (.ifCond .eq 101, 3) := by decide +kernel
theorem d_Trial_takeAll_56 : decode b_Trial_takeAll 56 = .ok (.iload 4, 2) := by decide +kernel
theorem d_Trial_takeAll_58 : decode b_Trial_takeAll 58 = .ok (.bipush 60, 2) := by decide +kernel
theorem d_Trial_takeAll_60 : decode b_Trial_takeAll 60 = .ok (.if_icmp .ge 94, 3) := by decide +kernel
theorem d_Trial_takeAll_63 : decode b_Trial_takeAll 63 = .ok (.aload_n 0, 1) := by decide +kernel
theorem d_Trial_takeAll_64 : decode b_Trial_takeAll 64 = .ok (.dup, 1) := by decide +kernel
theorem d_Trial_takeAll_65 : decode b_Trial_takeAll 65 = .ok (.getfield 83, 3) := by decide +kernel
theorem d_Trial_takeAll_68 : decode b_Trial_takeAll 68 = .ok (.iconst 1, 1) := by decide +kernel
theorem d_Trial_takeAll_69 : decode b_Trial_takeAll 69 = .ok (.iadd, 1) := by decide +kernel
theorem d_Trial_takeAll_70 : decode b_Trial_takeAll 70 = .ok (.putfield 83, 3) := by decide +kernel
theorem d_Trial_takeAll_73 : decode b_Trial_takeAll 73 = .ok (.aload_n 0, 1) := by decide +kernel
theorem d_Trial_takeAll_74 : decode b_Trial_takeAll 74 = .ok (.getfield 60, 3) := by decide +kernel
theorem d_Trial_takeAll_77 : decode b_Trial_takeAll 77 = .ok (.aload_n 0, 1) := by decide +kernel
theorem d_Trial_takeAll_78 : decode b_Trial_takeAll 78 = .ok (.getfield 52, 3) := by decide +kernel
theorem d_Trial_takeAll_81 : decode b_Trial_takeAll 81 = .ok (.aload_n 0, 1) := by decide +kernel
theorem d_Trial_takeAll_82 : decode b_Trial_takeAll 82 = .ok (.getfield 83, 3) := by decide +kernel
theorem d_Trial_takeAll_85 : decode b_Trial_takeAll 85 = .ok (.invokevirtual 165, 3) := by decide +kernel
theorem d_Trial_takeAll_88 : decode b_Trial_takeAll 88 = .ok (.ifCond .ne 14, 3) := by decide +kernel
theorem d_Trial_takeAll_91 : decode b_Trial_takeAll 91 = .ok (.aload_n 0, 1) := by decide +kernel
theorem d_Trial_takeAll_92 : decode b_Trial_takeAll 92 = .ok (.bipush 7, 2) := by decide +kernel
theorem d_Trial_takeAll_94 : decode b_Trial_takeAll 94 = .ok (.aload_n 0, 1) := by decide +kernel
theorem d_Trial_takeAll_95 : decode b_Trial_takeAll 95 = .ok (.getfield 83, 3) := by decide +kernel
theorem d_Trial_takeAll_98 : decode b_Trial_takeAll 98 = .ok (.invokevirtual 136, 3) := by decide +kernel
theorem d_Trial_takeAll_101 : decode b_Trial_takeAll 101 = .ok (.return_, 1) := by decide +kernel
theorem d_Trial_takeAll_102 : decode b_Trial_takeAll 102 = .ok (.aload_n 2, 1) := by decide +kernel
theorem d_Trial_takeAll_103 : decode b_Trial_takeAll 103 = .ok (.dup, 1) := by decide +kernel
theorem d_Trial_takeAll_104 : decode b_Trial_takeAll 104 = .ok (.getfield 159, 3) := by decide +kernel
theorem d_Trial_takeAll_107 : decode b_Trial_takeAll 107 = .ok (.aload_n 0, 1) := by decide +kernel
theorem d_Trial_takeAll_108 : decode b_Trial_takeAll 108 = .ok (.getfield 60, 3) := by decide +kernel
theorem d_Trial_takeAll_111 : decode b_Trial_takeAll 111 = .ok (.getfield 168, 3) := by decide +kernel
theorem d_Trial_takeAll_114 : decode b_Trial_takeAll 114 = .ok (.ldc2_w 192, 3) := by decide +kernel
theorem d_Trial_takeAll_117 : decode b_Trial_takeAll 117 = .ok (.lxor, 1) := by decide +kernel
theorem d_Trial_takeAll_118 : decode b_Trial_takeAll 118 = .ok (.land, 1) := by decide +kernel
theorem d_Trial_takeAll_119 : decode b_Trial_takeAll 119 = .ok (.putfield 159, 3) := by decide +kernel
theorem d_Trial_takeAll_122 : decode b_Trial_takeAll 122 = .ok (.aload_n 0, 1) := by decide +kernel
theorem d_Trial_takeAll_123 : decode b_Trial_takeAll 123 = .ok (.aload_n 0, 1) := by decide +kernel
theorem d_Trial_takeAll_124 : decode b_Trial_takeAll 124 = .ok (.getfield 60, 3) := by decide +kernel
theorem d_Trial_takeAll_127 : decode b_Trial_takeAll 127 = .ok (.getfield 186, 3) := by decide +kernel
theorem d_Trial_takeAll_130 : decode b_Trial_takeAll 130 = .ok (.putfield 83, 3) := by decide +kernel
theorem d_Trial_takeAll_133 : decode b_Trial_takeAll 133 = .ok (.aload_n 0, 1) := by decide +kernel
theorem d_Trial_takeAll_134 : decode b_Trial_takeAll 134 = .ok (.getfield 52, 3) := by decide +kernel
theorem d_Trial_takeAll_137 : decode b_Trial_takeAll 137 = .ok (.aload_n 0, 1) := by decide +kernel
theorem d_Trial_takeAll_138 : decode b_Trial_takeAll 138 = .ok (.getfield 83, 3) := by decide +kernel
theorem d_Trial_takeAll_141 : decode b_Trial_takeAll 141 = .ok (.invokevirtual 115, 3) := by decide +kernel
theorem d_Trial_takeAll_144 : decode b_Trial_takeAll 144 = .ok (.invokestatic 162, 3) := by decide +kernel
theorem d_Trial_takeAll_147 : decode b_Trial_takeAll 147 = .ok (.istore_n 3, 1) := by decide +kernel
theorem d_Trial_takeAll_148 : decode b_Trial_takeAll 148 = .ok (.iinc 4 1, 3) := by decide +kernel
theorem d_Trial_takeAll_151 : decode b_Trial_takeAll 151 = .ok (.goto (-99), 3) := by decide +kernel
theorem d_Trial_takeAll_154 : decode b_Trial_takeAll 154 = .ok (.aload_n 2, 1) := by decide +kernel
theorem d_Trial_takeAll_155 : decode b_Trial_takeAll 155 = .ok (.getfield 159, 3) := by decide +kernel
theorem d_Trial_takeAll_158 : decode b_Trial_takeAll 158 = .ok (.lconst 0, 1) := by decide +kernel
theorem d_Trial_takeAll_159 : decode b_Trial_takeAll 159 = .ok (.lcmp, 1) := by decide +kernel
theorem d_Trial_takeAll_160 : decode b_Trial_takeAll 160 = .ok (.ifCond .ne 13, 3) := by decide +kernel
theorem d_Trial_takeAll_163 : decode b_Trial_takeAll 163 = .ok (.aload_n 0, 1) := by decide +kernel
theorem d_Trial_takeAll_164 : decode b_Trial_takeAll 164 = .ok (.bipush 14, 2) := by decide +kernel
theorem d_Trial_takeAll_166 : decode b_Trial_takeAll 166 = .ok (.aload_n 2, 1) := by decide +kernel
theorem d_Trial_takeAll_167 : decode b_Trial_takeAll 167 = .ok (.getfield 131, 3) := by decide +kernel
theorem d_Trial_takeAll_170 : decode b_Trial_takeAll 170 = .ok (.invokevirtual 136, 3) := by decide +kernel
theorem d_Trial_takeAll_173 : decode b_Trial_takeAll 173 = .ok (.return_, 1) := by decide +kernel
theorem d_Trial_takeOne_0 : decode b_Trial_takeOne 0 = .ok (.aload_n 0, 1) := by decide +kernel
theorem d_Trial_takeOne_1 : decode b_Trial_takeOne 1 = .ok (.iload_n 1, 1) := by decide +kernel
theorem d_Trial_takeOne_2 : decode b_Trial_takeOne 2 = .ok (.invokevirtual 140, 3) := by decide +kernel
theorem d_Trial_takeOne_5 : decode b_Trial_takeOne 5 = .ok (.astore_n 2, 1) := by decide +kernel
theorem d_Trial_takeOne_6 : decode b_Trial_takeOne 6 = .ok (.aload_n 2, 1) := by decide +kernel
theorem d_Trial_takeOne_7 : decode b_Trial_takeOne 7 = .ok (.aload_n 0, 1) := by decide +kernel
theorem d_Trial_takeOne_8 : decode b_Trial_takeOne 8 = .ok (.iload_n 1, 1) := by decide +kernel
theorem d_Trial_takeOne_9 : decode b_Trial_takeOne 9 = .ok (.invokevirtual 155, 3) := by decide +kernel
theorem d_Trial_takeOne_12 : decode b_Trial_takeOne 12 = .ok (.putfield 159, 3) := by decide +kernel
theorem d_Trial_takeOne_15 : decode b_Trial_takeOne 15 = .ok (.aload_n 0, 1) := by decide +kernel
theorem d_Trial_takeOne_16 : decode b_Trial_takeOne 16 = .ok (.getfield 76, 3) := by decide +kernel
theorem d_Trial_takeOne_19 : decode b_Trial_takeOne 19 = .ok (.ifCond .ne 30, 3) := by decide +kernel
theorem d_Trial_takeOne_22 : decode b_Trial_takeOne 22 = .ok (.aload_n 0, 1) := by decide +kernel
theorem d_Trial_takeOne_23 : decode b_Trial_takeOne 23 = .ok (.getfield 52, 3) := by decide +kernel
theorem d_Trial_takeOne_26 : decode b_Trial_takeOne 26 = .ok (.aload_n 0, 1) := by decide +kernel
theorem d_Trial_takeOne_27 : decode b_Trial_takeOne 27 = .ok (.getfield 83, 3) := by decide +kernel
theorem d_Trial_takeOne_30 : decode b_Trial_takeOne 30 = .ok (.invokevirtual 115, 3) := by decide +kernel
theorem d_Trial_takeOne_33 : decode b_Trial_takeOne 33 = .ok (.invokestatic 162, 3) := by decide +kernel
theorem d_Trial_takeOne_36 : decode b_Trial_takeOne 36 = .ok (.ifCond .eq 13, 3) := by decide +kernel
theorem d_Trial_takeOne_39 : decode b_Trial_takeOne 39 = .ok (.aload_n 0, 1) := by decide +kernel
theorem d_Trial_takeOne_40 : decode b_Trial_takeOne 40 = .ok (.bipush 13, 2) := by decide +kernel
theorem d_Trial_takeOne_42 : decode b_Trial_takeOne 42 = .ok (.aload_n 0, 1) := by decide +kernel
theorem d_Trial_takeOne_43 : decode b_Trial_takeOne 43 = .ok (.getfield 83, 3) := by decide +kernel
theorem d_Trial_takeOne_46 : decode b_Trial_takeOne 46 = .ok (.invokevirtual 136, 3) := by decide +kernel
theorem d_Trial_takeOne_49 : decode b_Trial_takeOne 49 = .ok (.return_, 1) := by decide +kernel
theorem d_Lines_ofAt_0 : decode b_Lines_ofAt 0 = .ok (.aload_n 0, 1) := by decide +kernel
theorem d_Lines_ofAt_1 : decode b_Lines_ofAt 1 = .ok (.iload_n 1, 1) := by decide +kernel
theorem d_Lines_ofAt_2 : decode b_Lines_ofAt 2 = .ok (.invokevirtual 39, 3) := by decide +kernel
theorem d_Lines_ofAt_5 : decode b_Lines_ofAt 5 = .ok (.ifCond .eq 31, 3) := by decide +kernel
theorem d_Lines_ofAt_8 : decode b_Lines_ofAt 8 = .ok (.iload_n 2, 1) := by decide +kernel
theorem d_Lines_ofAt_9 : decode b_Lines_ofAt 9 = .ok (.ifCond .lt 27, 3) := by decide +kernel
theorem d_Lines_ofAt_12 : decode b_Lines_ofAt 12 = .ok (.iload_n 2, 1) := by decide +kernel
theorem d_Lines_ofAt_13 : decode b_Lines_ofAt 13 = .ok (.aload_n 0, 1) := by decide +kernel
theorem d_Lines_ofAt_14 : decode b_Lines_ofAt 14 = .ok (.getfield 22, 3) := by decide +kernel
theorem d_Lines_ofAt_17 : decode b_Lines_ofAt 17 = .ok (.iload_n 1, 1) := by decide +kernel
theorem d_Lines_ofAt_18 : decode b_Lines_ofAt 18 = .ok (.iaload, 1) := by decide +kernel
theorem d_Lines_ofAt_19 : decode b_Lines_ofAt 19 = .ok (.if_icmp .ge 17, 3) := by decide +kernel
theorem d_Lines_ofAt_22 : decode b_Lines_ofAt 22 = .ok (.aload_n 0, 1) := by decide +kernel
theorem d_Lines_ofAt_23 : decode b_Lines_ofAt 23 = .ok (.getfield 28, 3) := by decide +kernel
theorem d_Lines_ofAt_26 : decode b_Lines_ofAt 26 = .ok (.iload_n 1, 1) := by decide +kernel
theorem d_Lines_ofAt_27 : decode b_Lines_ofAt 27 = .ok (.bipush 8, 2) := by decide +kernel
theorem d_Lines_ofAt_29 : decode b_Lines_ofAt 29 = .ok (.imul, 1) := by decide +kernel
theorem d_Lines_ofAt_30 : decode b_Lines_ofAt 30 = .ok (.iload_n 2, 1) := by decide +kernel
theorem d_Lines_ofAt_31 : decode b_Lines_ofAt 31 = .ok (.iadd, 1) := by decide +kernel
theorem d_Lines_ofAt_32 : decode b_Lines_ofAt 32 = .ok (.iaload, 1) := by decide +kernel
theorem d_Lines_ofAt_33 : decode b_Lines_ofAt 33 = .ok (.goto 4, 3) := by decide +kernel
theorem d_Lines_ofAt_36 : decode b_Lines_ofAt 36 = .ok (.iconst (-1), 1) := by decide +kernel
theorem d_Lines_ofAt_37 : decode b_Lines_ofAt 37 = .ok (.ireturn, 1) := by decide +kernel
theorem d_Trial_takeCustom_0 : decode b_Trial_takeCustom 0 = .ok (.aload_n 0, 1) := by decide +kernel
theorem d_Trial_takeCustom_1 : decode b_Trial_takeCustom 1 = .ok (.getfield 48, 3) := by decide +kernel
theorem d_Trial_takeCustom_4 : decode b_Trial_takeCustom 4 = .ok (.iload_n 1, 1) := by decide +kernel
theorem d_Trial_takeCustom_5 : decode b_Trial_takeCustom 5 = .ok (.aload_n 0, 1) := by decide +kernel
theorem d_Trial_takeCustom_6 : decode b_Trial_takeCustom 6 = .ok (.getfield 52, 3) := by decide +kernel
theorem d_Trial_takeCustom_9 : decode b_Trial_takeCustom 9 = .ok (.aload_n 0, 1) := by decide +kernel
theorem d_Trial_takeCustom_10 : decode b_Trial_takeCustom 10 = .ok (.getfield 83, 3) := by decide +kernel
theorem d_Trial_takeCustom_13 : decode b_Trial_takeCustom 13 = .ok (.invokevirtual 115, 3) := by decide +kernel
theorem d_Trial_takeCustom_16 : decode b_Trial_takeCustom 16 = .ok (.invokevirtual 150, 3) := by decide +kernel
theorem d_Trial_takeCustom_19 : decode b_Trial_takeCustom 19 = .ok (.istore_n 2, 1) := by decide +kernel
theorem d_Trial_takeCustom_20 : decode b_Trial_takeCustom 20 = .ok (.iload_n 2, 1) := by decide +kernel
theorem d_Trial_takeCustom_21 : decode b_Trial_takeCustom 21 = .ok (.iconst (-1), 1) := by decide +kernel
theorem d_Trial_takeCustom_22 : decode b_Trial_takeCustom 22 = .ok (.if_icmp .ne 14, 3) := by decide +kernel
theorem d_Trial_takeCustom_25 : decode b_Trial_takeCustom 25 = .ok (.aload_n 0, 1) := by decide +kernel
theorem d_Trial_takeCustom_26 : decode b_Trial_takeCustom 26 = .ok (.bipush 9, 2) := by decide +kernel
theorem d_Trial_takeCustom_28 : decode b_Trial_takeCustom 28 = .ok (.aload_n 0, 1) := by decide +kernel
theorem d_Trial_takeCustom_29 : decode b_Trial_takeCustom 29 = .ok (.getfield 83, 3) := by decide +kernel
theorem d_Trial_takeCustom_32 : decode b_Trial_takeCustom 32 = .ok (.invokevirtual 136, 3) := by decide +kernel
theorem d_Trial_takeCustom_35 : decode b_Trial_takeCustom 35 = .ok (.return_, 1) := by decide +kernel
theorem d_Trial_takeCustom_36 : decode b_Trial_takeCustom 36 = .ok (.aload_n 0, 1) := by decide +kernel
theorem d_Trial_takeCustom_37 : decode b_Trial_takeCustom 37 = .ok (.bipush 11, 2) := by decide +kernel
theorem d_Trial_takeCustom_39 : decode b_Trial_takeCustom 39 = .ok (.invokevirtual 140, 3) := by decide +kernel
theorem d_Trial_takeCustom_42 : decode b_Trial_takeCustom 42 = .ok (.getfield 144, 3) := by decide +kernel
theorem d_Trial_takeCustom_45 : decode b_Trial_takeCustom 45 = .ok (.iload_n 2, 1) := by decide +kernel
theorem d_Trial_takeCustom_46 : decode b_Trial_takeCustom 46 = .ok (.invokevirtual 147, 3) := by decide +kernel
theorem d_Trial_takeCustom_49 : decode b_Trial_takeCustom 49 = .ok (.aload_n 0, 1) := by decide +kernel
theorem d_Trial_takeCustom_50 : decode b_Trial_takeCustom 50 = .ok (.dup, 1) := by decide +kernel
theorem d_Trial_takeCustom_51 : decode b_Trial_takeCustom 51 = .ok (.getfield 83, 3) := by decide +kernel
theorem d_Trial_takeCustom_54 : decode b_Trial_takeCustom 54 = .ok (.iconst 1, 1) := by decide +kernel
theorem d_Trial_takeCustom_55 : decode b_Trial_takeCustom 55 = .ok (.iadd, 1) := by decide +kernel
theorem d_Trial_takeCustom_56 : decode b_Trial_takeCustom 56 = .ok (.putfield 83, 3) := by decide +kernel
theorem d_Trial_takeCustom_59 : decode b_Trial_takeCustom 59 = .ok (.return_, 1) := by decide +kernel
theorem d_Trial_takeNumber_0 : decode b_Trial_takeNumber 0 = .ok (.aload_n 0, 1) := by decide +kernel
theorem d_Trial_takeNumber_1 : decode b_Trial_takeNumber 1 = .ok (.getfield 52, 3) := by decide +kernel
theorem d_Trial_takeNumber_4 : decode b_Trial_takeNumber 4 = .ok (.aload_n 0, 1) := by decide +kernel
theorem d_Trial_takeNumber_5 : decode b_Trial_takeNumber 5 = .ok (.getfield 83, 3) := by decide +kernel
theorem d_Trial_takeNumber_8 : decode b_Trial_takeNumber 8 = .ok (.invokevirtual 115, 3) := by decide +kernel
theorem d_Trial_takeNumber_11 : decode b_Trial_takeNumber 11 = .ok (.istore_n 1, 1) := by decide +kernel
theorem d_Trial_takeNumber_12 : decode b_Trial_takeNumber 12 = .ok (.iload_n 1, 1) := by decide +kernel
theorem d_Trial_takeNumber_13 : decode b_Trial_takeNumber 13 = .ok (.sipush 10000, 3) := by decide +kernel
theorem d_Trial_takeNumber_16 : decode b_Trial_takeNumber 16 = .ok (.if_icmp .lt 10, 3) := by decide +kernel
theorem d_Trial_takeNumber_19 : decode b_Trial_takeNumber 19 = .ok (.iload_n 1, 1) := by decide +kernel
theorem d_Trial_takeNumber_20 : decode b_Trial_takeNumber 20 = .ok (.sipush 19999, 3) := by decide +kernel
theorem d_Trial_takeNumber_23 : decode b_Trial_takeNumber 23 = .ok (.if_icmp .le 14, 3) := by decide +kernel
theorem d_Trial_takeNumber_26 : decode b_Trial_takeNumber 26 = .ok (.aload_n 0, 1) := by decide +kernel
theorem d_Trial_takeNumber_27 : decode b_Trial_takeNumber 27 = .ok (.bipush 8, 2) := by decide +kernel
theorem d_Trial_takeNumber_29 : decode b_Trial_takeNumber 29 = .ok (.aload_n 0, 1) := by decide +kernel
theorem d_Trial_takeNumber_30 : decode b_Trial_takeNumber 30 = .ok (.getfield 83, 3) := by decide +kernel
theorem d_Trial_takeNumber_33 : decode b_Trial_takeNumber 33 = .ok (.invokevirtual 136, 3) := by decide +kernel
theorem d_Trial_takeNumber_36 : decode b_Trial_takeNumber 36 = .ok (.return_, 1) := by decide +kernel
theorem d_Trial_takeNumber_37 : decode b_Trial_takeNumber 37 = .ok (.aload_n 0, 1) := by decide +kernel
theorem d_Trial_takeNumber_38 : decode b_Trial_takeNumber 38 = .ok (.bipush 10, 2) := by decide +kernel
theorem d_Trial_takeNumber_40 : decode b_Trial_takeNumber 40 = .ok (.invokevirtual 140, 3) := by decide +kernel
theorem d_Trial_takeNumber_43 : decode b_Trial_takeNumber 43 = .ok (.getfield 144, 3) := by decide +kernel
theorem d_Trial_takeNumber_46 : decode b_Trial_takeNumber 46 = .ok (.iload_n 1, 1) := by decide +kernel
theorem d_Trial_takeNumber_47 : decode b_Trial_takeNumber 47 = .ok (.sipush 10000, 3) := by decide +kernel
theorem d_Trial_takeNumber_50 : decode b_Trial_takeNumber 50 = .ok (.isub, 1) := by decide +kernel
theorem d_Trial_takeNumber_51 : decode b_Trial_takeNumber 51 = .ok (.invokevirtual 147, 3) := by decide +kernel
theorem d_Trial_takeNumber_54 : decode b_Trial_takeNumber 54 = .ok (.aload_n 0, 1) := by decide +kernel
theorem d_Trial_takeNumber_55 : decode b_Trial_takeNumber 55 = .ok (.dup, 1) := by decide +kernel
theorem d_Trial_takeNumber_56 : decode b_Trial_takeNumber 56 = .ok (.getfield 83, 3) := by decide +kernel
theorem d_Trial_takeNumber_59 : decode b_Trial_takeNumber 59 = .ok (.iconst 1, 1) := by decide +kernel
theorem d_Trial_takeNumber_60 : decode b_Trial_takeNumber 60 = .ok (.iadd, 1) := by decide +kernel
theorem d_Trial_takeNumber_61 : decode b_Trial_takeNumber 61 = .ok (.putfield 83, 3) := by decide +kernel
theorem d_Trial_takeNumber_64 : decode b_Trial_takeNumber 64 = .ok (.return_, 1) := by decide +kernel
theorem d_Lines_takes_0 : decode b_Lines_takes 0 = .ok (.aload_n 0, 1) := by decide +kernel
theorem d_Lines_takes_1 : decode b_Lines_takes 1 = .ok (.iload_n 1, 1) := by decide +kernel
theorem d_Lines_takes_2 : decode b_Lines_takes 2 = .ok (.iload_n 2, 1) := by decide +kernel
theorem d_Lines_takes_3 : decode b_Lines_takes 3 = .ok (.invokevirtual 47, 3) := by decide +kernel
theorem d_Lines_takes_6 : decode b_Lines_takes 6 = .ok (.ifCond .eq 5, 3) := by decide +kernel
theorem d_Lines_takes_9 : decode b_Lines_takes 9 = .ok (.iconst 0, 1) := by decide +kernel
theorem d_Lines_takes_10 : decode b_Lines_takes 10 = .ok (.ireturn, 1) := by decide +kernel
theorem d_Lines_takes_11 : decode b_Lines_takes 11 = .ok (.iconst 1, 1) := by decide +kernel
theorem d_Lines_takes_12 : decode b_Lines_takes 12 = .ok (.istore 4, 2) := by decide +kernel
theorem d_Lines_takes_14 : decode b_Lines_takes 14 = .ok (.iload_n 2, 1) := by decide +kernel
theorem d_Lines_takes_15 : decode b_Lines_takes 15 = .ok (.istore 5, 2) := by decide +kernel
theorem d_Lines_takes_17 : decode b_Lines_takes 17 = .ok (.iload 4, 2) := by decide +kernel
theorem d_Lines_takes_19 : decode b_Lines_takes 19 = .ok (.ifCond .eq 52, 3) := by decide +kernel
theorem d_Lines_takes_22 : decode b_Lines_takes 22 = .ok (.iload 5, 2) := by decide +kernel
theorem d_Lines_takes_24 : decode b_Lines_takes 24 = .ok (.aload_n 0, 1) := by decide +kernel
theorem d_Lines_takes_25 : decode b_Lines_takes 25 = .ok (.iload_n 1, 1) := by decide +kernel
theorem d_Lines_takes_26 : decode b_Lines_takes 26 = .ok (.invokevirtual 43, 3) := by decide +kernel
theorem d_Lines_takes_29 : decode b_Lines_takes 29 = .ok (.if_icmp .ge 42, 3) := by decide +kernel
theorem d_Lines_takes_32 : decode b_Lines_takes 32 = .ok (.aload_n 0, 1) := by decide +kernel
theorem d_Lines_takes_33 : decode b_Lines_takes 33 = .ok (.iload_n 1, 1) := by decide +kernel
theorem d_Lines_takes_34 : decode b_Lines_takes 34 = .ok (.iload 5, 2) := by decide +kernel
theorem d_Lines_takes_36 : decode b_Lines_takes 36 = .ok (.invokevirtual 57, 3) := by decide +kernel
theorem d_Lines_takes_39 : decode b_Lines_takes 39 = .ok (.iload_n 3, 1) := by decide +kernel
theorem d_Lines_takes_40 : decode b_Lines_takes 40 = .ok (.if_icmp .ne 5, 3) := by decide +kernel
theorem d_Lines_takes_43 : decode b_Lines_takes 43 = .ok (.iconst 1, 1) := by decide +kernel
theorem d_Lines_takes_44 : decode b_Lines_takes 44 = .ok (.ireturn, 1) := by decide +kernel
theorem d_Lines_takes_45 : decode b_Lines_takes 45 = .ok (.aload_n 0, 1) := by decide +kernel
theorem d_Lines_takes_46 : decode b_Lines_takes 46 = .ok (.iload_n 1, 1) := by decide +kernel
theorem d_Lines_takes_47 : decode b_Lines_takes 47 = .ok (.iload 5, 2) := by decide +kernel
theorem d_Lines_takes_49 : decode b_Lines_takes 49 = .ok (.iconst 1, 1) := by decide +kernel
theorem d_Lines_takes_50 : decode b_Lines_takes 50 = .ok (.iadd, 1) := by decide +kernel
theorem d_Lines_takes_51 : decode b_Lines_takes 51 = .ok (.invokevirtual 47, 3) := by decide +kernel
theorem d_Lines_takes_54 : decode b_Lines_takes 54 = .ok (.iconst 1, 1) := by decide +kernel
theorem d_Lines_takes_55 : decode b_Lines_takes 55 = .ok (.if_icmp .ne 7, 3) := by decide +kernel
theorem d_Lines_takes_58 : decode b_Lines_takes 58 = .ok (.iconst 1, 1) := by decide +kernel
theorem d_Lines_takes_59 : decode b_Lines_takes 59 = .ok (.goto 4, 3) := by decide +kernel
theorem d_Lines_takes_62 : decode b_Lines_takes 62 = .ok (.iconst 0, 1) := by decide +kernel
theorem d_Lines_takes_63 : decode b_Lines_takes 63 = .ok (.istore 4, 2) := by decide +kernel
theorem d_Lines_takes_65 : decode b_Lines_takes 65 = .ok (.iinc 5 1, 3) := by decide +kernel
theorem d_Lines_takes_68 : decode b_Lines_takes 68 = .ok (.goto (-51), 3) := by decide +kernel
theorem d_Lines_takes_71 : decode b_Lines_takes 71 = .ok (.iconst 0, 1) := by decide +kernel
theorem d_Lines_takes_72 : decode b_Lines_takes 72 = .ok (.ireturn, 1) := by decide +kernel
theorem d_Trial_takeTopic_0 : decode b_Trial_takeTopic 0 = .ok (.aload_n 0, 1) := by decide +kernel
theorem d_Trial_takeTopic_1 : decode b_Trial_takeTopic 1 = .ok (.bipush 9, 2) := by decide +kernel
theorem d_Trial_takeTopic_3 : decode b_Trial_takeTopic 3 = .ok (.invokevirtual 140, 3) := by decide +kernel
theorem d_Trial_takeTopic_6 : decode b_Trial_takeTopic 6 = .ok (.astore_n 2, 1) := by decide +kernel
theorem d_Trial_takeTopic_7 : decode b_Trial_takeTopic 7 = .ok (.aload_n 0, 1) := by decide +kernel
theorem d_Trial_takeTopic_8 : decode b_Trial_takeTopic 8 = .ok (.getfield 83, 3) := by decide +kernel
theorem d_Trial_takeTopic_11 : decode b_Trial_takeTopic 11 = .ok (.istore_n 3, 1) := by decide +kernel
theorem d_Trial_takeTopic_12 : decode b_Trial_takeTopic 12 = .ok (.aload_n 0, 1) := by decide +kernel
theorem d_Trial_takeTopic_13 : decode b_Trial_takeTopic 13 = .ok (.getfield 83, 3) := by decide +kernel
theorem d_Trial_takeTopic_16 : decode b_Trial_takeTopic 16 = .ok (.aload_n 0, 1) := by decide +kernel
theorem d_Trial_takeTopic_17 : decode b_Trial_takeTopic 17 = .ok (.getfield 52, 3) := by decide +kernel
theorem d_Trial_takeTopic_20 : decode b_Trial_takeTopic 20 = .ok (.invokevirtual 86, 3) := by decide +kernel
theorem d_Trial_takeTopic_23 : decode b_Trial_takeTopic 23 = .ok (.if_icmp .ge 70, 3) := by decide +kernel
theorem d_Trial_takeTopic_26 : decode b_Trial_takeTopic 26 = .ok (.aload_n 0, 1) := by decide +kernel
theorem d_Trial_takeTopic_27 : decode b_Trial_takeTopic 27 = .ok (.getfield 83, 3) := by decide +kernel
theorem d_Trial_takeTopic_30 : decode b_Trial_takeTopic 30 = .ok (.iload_n 3, 1) := by decide +kernel
theorem d_Trial_takeTopic_31 : decode b_Trial_takeTopic 31 = .ok (.if_icmp .eq 31, 3) := by decide +kernel
theorem d_Trial_takeTopic_34 : decode b_Trial_takeTopic 34 = .ok (.aload_n 0, 1) := by decide +kernel
theorem d_Trial_takeTopic_35 : decode b_Trial_takeTopic 35 = .ok (.getfield 44, 3) := by decide +kernel
theorem d_Trial_takeTopic_38 : decode b_Trial_takeTopic 38 = .ok (.aload_n 0, 1) := by decide +kernel
theorem d_Trial_takeTopic_39 : decode b_Trial_takeTopic 39 = .ok (.getfield 33, 3) := by decide +kernel
theorem d_Trial_takeTopic_42 : decode b_Trial_takeTopic 42 = .ok (.iload_n 1, 1) := by decide +kernel
theorem d_Trial_takeTopic_43 : decode b_Trial_takeTopic 43 = .ok (.iconst 1, 1) := by decide +kernel
theorem d_Trial_takeTopic_44 : decode b_Trial_takeTopic 44 = .ok (.iadd, 1) := by decide +kernel
theorem d_Trial_takeTopic_45 : decode b_Trial_takeTopic 45 = .ok (.aload_n 0, 1) := by decide +kernel
theorem d_Trial_takeTopic_46 : decode b_Trial_takeTopic 46 = .ok (.getfield 52, 3) := by decide +kernel
theorem d_Trial_takeTopic_49 : decode b_Trial_takeTopic 49 = .ok (.aload_n 0, 1) := by decide +kernel
theorem d_Trial_takeTopic_50 : decode b_Trial_takeTopic 50 = .ok (.getfield 83, 3) := by decide +kernel
theorem d_Trial_takeTopic_53 : decode b_Trial_takeTopic 53 = .ok (.invokevirtual 115, 3) := by decide +kernel
theorem d_Trial_takeTopic_56 : decode b_Trial_takeTopic 56 = .ok (.invokevirtual 132, 3) := by decide +kernel
theorem d_Trial_takeTopic_59 : decode b_Trial_takeTopic 59 = .ok (.ifCond .ne 34, 3) := by decide +kernel
theorem d_Trial_takeTopic_62 : decode b_Trial_takeTopic 62 = .ok (.aload_n 2, 1) := by decide +kernel
theorem d_Trial_takeTopic_63 : decode b_Trial_takeTopic 63 = .ok (.getfield 144, 3) := by decide +kernel
theorem d_Trial_takeTopic_66 : decode b_Trial_takeTopic 66 = .ok (.aload_n 0, 1) := by decide +kernel
theorem d_Trial_takeTopic_67 : decode b_Trial_takeTopic 67 = .ok (.getfield 52, 3) := by decide +kernel
theorem d_Trial_takeTopic_70 : decode b_Trial_takeTopic 70 = .ok (.aload_n 0, 1) := by decide +kernel
theorem d_Trial_takeTopic_71 : decode b_Trial_takeTopic 71 = .ok (.getfield 83, 3) := by decide +kernel
theorem d_Trial_takeTopic_74 : decode b_Trial_takeTopic 74 = .ok (.invokevirtual 115, 3) := by decide +kernel
theorem d_Trial_takeTopic_77 : decode b_Trial_takeTopic 77 = .ok (.invokevirtual 147, 3) := by decide +kernel
theorem d_Trial_takeTopic_80 : decode b_Trial_takeTopic 80 = .ok (.aload_n 0, 1) := by decide +kernel
theorem d_Trial_takeTopic_81 : decode b_Trial_takeTopic 81 = .ok (.dup, 1) := by decide +kernel
theorem d_Trial_takeTopic_82 : decode b_Trial_takeTopic 82 = .ok (.getfield 83, 3) := by decide +kernel
theorem d_Trial_takeTopic_85 : decode b_Trial_takeTopic 85 = .ok (.iconst 1, 1) := by decide +kernel
theorem d_Trial_takeTopic_86 : decode b_Trial_takeTopic 86 = .ok (.iadd, 1) := by decide +kernel
theorem d_Trial_takeTopic_87 : decode b_Trial_takeTopic 87 = .ok (.putfield 83, 3) := by decide +kernel
theorem d_Trial_takeTopic_90 : decode b_Trial_takeTopic 90 = .ok (.goto (-78), 3) := by decide +kernel
theorem d_Trial_takeTopic_93 : decode b_Trial_takeTopic 93 = .ok (.return_, 1) := by decide +kernel
theorem d_Trial_takeWord_0 : decode b_Trial_takeWord 0 = .ok (.aload_n 0, 1) := by decide +kernel
theorem d_Trial_takeWord_1 : decode b_Trial_takeWord 1 = .ok (.getfield 44, 3) := by decide +kernel
theorem d_Trial_takeWord_4 : decode b_Trial_takeWord 4 = .ok (.aload_n 0, 1) := by decide +kernel
theorem d_Trial_takeWord_5 : decode b_Trial_takeWord 5 = .ok (.getfield 33, 3) := by decide +kernel
theorem d_Trial_takeWord_8 : decode b_Trial_takeWord 8 = .ok (.iload_n 1, 1) := by decide +kernel
theorem d_Trial_takeWord_9 : decode b_Trial_takeWord 9 = .ok (.aload_n 0, 1) := by decide +kernel
theorem d_Trial_takeWord_10 : decode b_Trial_takeWord 10 = .ok (.getfield 52, 3) := by decide +kernel
theorem d_Trial_takeWord_13 : decode b_Trial_takeWord 13 = .ok (.aload_n 0, 1) := by decide +kernel
theorem d_Trial_takeWord_14 : decode b_Trial_takeWord 14 = .ok (.getfield 83, 3) := by decide +kernel
theorem d_Trial_takeWord_17 : decode b_Trial_takeWord 17 = .ok (.invokevirtual 115, 3) := by decide +kernel
theorem d_Trial_takeWord_20 : decode b_Trial_takeWord 20 = .ok (.invokevirtual 132, 3) := by decide +kernel
theorem d_Trial_takeWord_23 : decode b_Trial_takeWord 23 = .ok (.ifCond .eq 16, 3) := by decide +kernel
theorem d_Trial_takeWord_26 : decode b_Trial_takeWord 26 = .ok (.aload_n 0, 1) := by decide +kernel
theorem d_Trial_takeWord_27 : decode b_Trial_takeWord 27 = .ok (.dup, 1) := by decide +kernel
theorem d_Trial_takeWord_28 : decode b_Trial_takeWord 28 = .ok (.getfield 83, 3) := by decide +kernel
theorem d_Trial_takeWord_31 : decode b_Trial_takeWord 31 = .ok (.iconst 1, 1) := by decide +kernel
theorem d_Trial_takeWord_32 : decode b_Trial_takeWord 32 = .ok (.iadd, 1) := by decide +kernel
theorem d_Trial_takeWord_33 : decode b_Trial_takeWord 33 = .ok (.putfield 83, 3) := by decide +kernel
theorem d_Trial_takeWord_36 : decode b_Trial_takeWord 36 = .ok (.goto 12, 3) := by decide +kernel
theorem d_Trial_takeWord_39 : decode b_Trial_takeWord 39 = .ok (.aload_n 0, 1) := by decide +kernel
theorem d_Trial_takeWord_40 : decode b_Trial_takeWord 40 = .ok (.iconst 5, 1) := by decide +kernel
theorem d_Trial_takeWord_41 : decode b_Trial_takeWord 41 = .ok (.aload_n 0, 1) := by decide +kernel
theorem d_Trial_takeWord_42 : decode b_Trial_takeWord 42 = .ok (.getfield 83, 3) := by decide +kernel
theorem d_Trial_takeWord_45 : decode b_Trial_takeWord 45 = .ok (.invokevirtual 136, 3) := by decide +kernel
theorem d_Trial_takeWord_48 : decode b_Trial_takeWord 48 = .ok (.return_, 1) := by decide +kernel
theorem d_Lines_slotFrom_0 : decode b_Lines_slotFrom 0 = .ok (.iload_n 2, 1) := by decide +kernel
theorem d_Lines_slotFrom_1 : decode b_Lines_slotFrom 1 = .ok (.istore_n 3, 1) := by decide +kernel
theorem d_Lines_slotFrom_2 : decode b_Lines_slotFrom 2 = .ok (.iload_n 3, 1) := by decide +kernel
theorem d_Lines_slotFrom_3 : decode b_Lines_slotFrom 3 = .ok (.aload_n 0, 1) := by decide +kernel
theorem d_Lines_slotFrom_4 : decode b_Lines_slotFrom 4 = .ok (.iload_n 1, 1) := by decide +kernel
theorem d_Lines_slotFrom_5 : decode b_Lines_slotFrom 5 = .ok (.invokevirtual 43, 3) := by decide +kernel
theorem d_Lines_slotFrom_8 : decode b_Lines_slotFrom 8 = .ok (.if_icmp .ge 23, 3) := by decide +kernel
theorem d_Lines_slotFrom_11 : decode b_Lines_slotFrom 11 = .ok (.aload_n 0, 1) := by decide +kernel
theorem d_Lines_slotFrom_12 : decode b_Lines_slotFrom 12 = .ok (.iload_n 1, 1) := by decide +kernel
theorem d_Lines_slotFrom_13 : decode b_Lines_slotFrom 13 = .ok (.iload_n 3, 1) := by decide +kernel
theorem d_Lines_slotFrom_14 : decode b_Lines_slotFrom 14 = .ok (.invokevirtual 47, 3) := by decide +kernel
theorem d_Lines_slotFrom_17 : decode b_Lines_slotFrom 17 = .ok (.invokestatic 51, 3) := by decide +kernel
theorem d_Lines_slotFrom_20 : decode b_Lines_slotFrom 20 = .ok (.ifCond .eq 5, 3) := by decide +kernel
theorem d_Lines_slotFrom_23 : decode b_Lines_slotFrom 23 = .ok (.iload_n 3, 1) := by decide +kernel
theorem d_Lines_slotFrom_24 : decode b_Lines_slotFrom 24 = .ok (.ireturn, 1) := by decide +kernel
theorem d_Lines_slotFrom_25 : decode b_Lines_slotFrom 25 = .ok (.iinc 3 1, 3) := by decide +kernel
theorem d_Lines_slotFrom_28 : decode b_Lines_slotFrom 28 = .ok (.goto (-26), 3) := by decide +kernel
theorem d_Lines_slotFrom_31 : decode b_Lines_slotFrom 31 = .ok (.iconst (-1), 1) := by decide +kernel
theorem d_Lines_slotFrom_32 : decode b_Lines_slotFrom 32 = .ok (.ireturn, 1) := by decide +kernel
theorem d_Things_fillersFor_0 : decode b_Things_fillersFor 0 = .ok (.iload_n 1, 1) := by decide +kernel
theorem d_Things_fillersFor_1 : decode b_Things_fillersFor 1 = .ok (.tableswitch 74 2 5 #[31, 45, 59, 64], 31) := by decide +kernel
theorem d_Things_fillersFor_32 : decode b_Things_fillersFor 32 = .ok (.aload_n 0, 1) := by decide +kernel
theorem d_Things_fillersFor_33 : decode b_Things_fillersFor 33 = .ok (.getfield 41, 3) := by decide +kernel
theorem d_Things_fillersFor_36 : decode b_Things_fillersFor 36 = .ok (.aload_n 0, 1) := by decide +kernel
