theorem d_M_said_12 : decode b_M_said 12 = .ok (.invokestatic 112, 3) := by decide +kernel
theorem d_M_said_15 : decode b_M_said 15 = .ok (.ifCond .eq 12, 3) := by decide +kernel
theorem d_M_said_18 : decode b_M_said 18 = .ok (.aload_n 0, 1) := by decide +kernel
theorem d_M_said_19 : decode b_M_said 19 = .ok (.getfield 84, 3) := by decide +kernel
theorem d_M_said_22 : decode b_M_said 22 = .ok (.iload_n 2, 1) := by decide +kernel
theorem d_M_said_23 : decode b_M_said 23 = .ok (.iaload, 1) := by decide +kernel
theorem d_M_said_24 : decode b_M_said 24 = .ok (.goto 4, 3) := by decide +kernel
theorem d_M_said_27 : decode b_M_said 27 = .ok (.iconst (-1), 1) := by decide +kernel
theorem d_M_said_28 : decode b_M_said 28 = .ok (.ireturn, 1) := by decide +kernel
theorem d_M_said_29 : decode b_M_said 29 = .ok (.iload_n 1, 1) := by decide +kernel
theorem d_M_said_30 : decode b_M_said 30 = .ok (.iconst 1, 1) := by decide +kernel
theorem d_M_said_31 : decode b_M_said 31 = .ok (.if_icmp .ne 26, 3) := by decide +kernel
theorem d_M_said_34 : decode b_M_said 34 = .ok (.iload_n 2, 1) := by decide +kernel
theorem d_M_said_35 : decode b_M_said 35 = .ok (.iconst 0, 1) := by decide +kernel
theorem d_M_said_36 : decode b_M_said 36 = .ok (.aload_n 0, 1) := by decide +kernel
theorem d_M_said_37 : decode b_M_said 37 = .ok (.getfield 157, 3) := by decide +kernel
theorem d_M_said_40 : decode b_M_said 40 = .ok (.iconst 1, 1) := by decide +kernel
theorem d_M_said_41 : decode b_M_said 41 = .ok (.isub, 1) := by decide +kernel
theorem d_M_said_42 : decode b_M_said 42 = .ok (.invokestatic 112, 3) := by decide +kernel
theorem d_M_said_45 : decode b_M_said 45 = .ok (.ifCond .eq 12, 3) := by decide +kernel
theorem d_M_said_48 : decode b_M_said 48 = .ok (.aload_n 0, 1) := by decide +kernel
theorem d_M_said_49 : decode b_M_said 49 = .ok (.getfield 53, 3) := by decide +kernel
theorem d_M_said_52 : decode b_M_said 52 = .ok (.iload_n 2, 1) := by decide +kernel
theorem d_M_said_53 : decode b_M_said 53 = .ok (.iaload, 1) := by decide +kernel
theorem d_M_said_54 : decode b_M_said 54 = .ok (.goto 4, 3) := by decide +kernel
theorem d_M_said_57 : decode b_M_said 57 = .ok (.iconst (-1), 1) := by decide +kernel
theorem d_M_said_58 : decode b_M_said 58 = .ok (.ireturn, 1) := by decide +kernel
