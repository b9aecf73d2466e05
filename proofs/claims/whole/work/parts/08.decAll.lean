/-! Decode rows, laid by program. -/
theorem dA_gate_0 : decode prog_1_method_2_code 0 = .ok (.iload_n 1, 1) := by decide +kernel
theorem dA_gate_1 : decode prog_1_method_2_code 1 = .ok (.ifCond .lt (18), 3) := by decide +kernel
theorem dA_gate_4 : decode prog_1_method_2_code 4 = .ok (.iload_n 1, 1) := by decide +kernel
theorem dA_gate_5 : decode prog_1_method_2_code 5 = .ok (.iconst 4, 1) := by decide +kernel
theorem dA_gate_6 : decode prog_1_method_2_code 6 = .ok (.if_icmp .gt (13), 3) := by decide +kernel
theorem dA_gate_9 : decode prog_1_method_2_code 9 = .ok (.iload_n 2, 1) := by decide +kernel
theorem dA_gate_10 : decode prog_1_method_2_code 10 = .ok (.ifCond .lt (9), 3) := by decide +kernel
theorem dA_gate_13 : decode prog_1_method_2_code 13 = .ok (.iload_n 2, 1) := by decide +kernel
theorem dA_gate_14 : decode prog_1_method_2_code 14 = .ok (.bipush (50), 2) := by decide +kernel
theorem dA_gate_16 : decode prog_1_method_2_code 16 = .ok (.if_icmp .le (11), 3) := by decide +kernel
theorem dA_gate_19 : decode prog_1_method_2_code 19 = .ok (.new 65, 3) := by decide +kernel
theorem dA_gate_22 : decode prog_1_method_2_code 22 = .ok (.dup, 1) := by decide +kernel
theorem dA_gate_23 : decode prog_1_method_2_code 23 = .ok (.invokespecial 67, 3) := by decide +kernel
theorem dA_gate_26 : decode prog_1_method_2_code 26 = .ok (.athrow, 1) := by decide +kernel
theorem dA_gate_27 : decode prog_1_method_2_code 27 = .ok (.aload_n 0, 1) := by decide +kernel
theorem dA_gate_28 : decode prog_1_method_2_code 28 = .ok (.getfield 12, 3) := by decide +kernel
theorem dA_gate_31 : decode prog_1_method_2_code 31 = .ok (.getfield 68, 3) := by decide +kernel
theorem dA_gate_34 : decode prog_1_method_2_code 34 = .ok (.bipush (12), 2) := by decide +kernel
theorem dA_gate_36 : decode prog_1_method_2_code 36 = .ok (.if_icmp .lt (11), 3) := by decide +kernel
theorem dA_gate_39 : decode prog_1_method_2_code 39 = .ok (.new 72, 3) := by decide +kernel
theorem dA_gate_42 : decode prog_1_method_2_code 42 = .ok (.dup, 1) := by decide +kernel
theorem dA_gate_43 : decode prog_1_method_2_code 43 = .ok (.invokespecial 74, 3) := by decide +kernel
theorem dA_gate_46 : decode prog_1_method_2_code 46 = .ok (.athrow, 1) := by decide +kernel
theorem dA_gate_47 : decode prog_1_method_2_code 47 = .ok (.aload_n 0, 1) := by decide +kernel
theorem dA_gate_48 : decode prog_1_method_2_code 48 = .ok (.getfield 12, 3) := by decide +kernel
theorem dA_gate_51 : decode prog_1_method_2_code 51 = .ok (.iload_n 1, 1) := by decide +kernel
theorem dA_gate_52 : decode prog_1_method_2_code 52 = .ok (.iload_n 2, 1) := by decide +kernel
theorem dA_gate_53 : decode prog_1_method_2_code 53 = .ok (.invokevirtual 75, 3) := by decide +kernel
theorem dA_gate_56 : decode prog_1_method_2_code 56 = .ok (.aload_n 0, 1) := by decide +kernel
theorem dA_gate_57 : decode prog_1_method_2_code 57 = .ok (.getfield 57, 3) := by decide +kernel
theorem dA_gate_60 : decode prog_1_method_2_code 60 = .ok (.aload_n 0, 1) := by decide +kernel
theorem dA_gate_61 : decode prog_1_method_2_code 61 = .ok (.getfield 19, 3) := by decide +kernel
theorem dA_gate_64 : decode prog_1_method_2_code 64 = .ok (.invokevirtual 79, 3) := by decide +kernel
theorem dA_gate_67 : decode prog_1_method_2_code 67 = .ok (.aload_n 0, 1) := by decide +kernel
theorem dA_gate_68 : decode prog_1_method_2_code 68 = .ok (.getfield 12, 3) := by decide +kernel
theorem dA_gate_71 : decode prog_1_method_2_code 71 = .ok (.getfield 68, 3) := by decide +kernel
theorem dA_gate_74 : decode prog_1_method_2_code 74 = .ok (.ireturn, 1) := by decide +kernel
theorem dA_wire_0 : decode prog_1_method_3_code 0 = .ok (.aload_n 0, 1) := by decide +kernel
theorem dA_wire_1 : decode prog_1_method_3_code 1 = .ok (.getfield 12, 3) := by decide +kernel
theorem dA_wire_4 : decode prog_1_method_3_code 4 = .ok (.iload_n 1, 1) := by decide +kernel
theorem dA_wire_5 : decode prog_1_method_3_code 5 = .ok (.invokevirtual 83, 3) := by decide +kernel
theorem dA_wire_8 : decode prog_1_method_3_code 8 = .ok (.ifCond .eq (14), 3) := by decide +kernel
theorem dA_wire_11 : decode prog_1_method_3_code 11 = .ok (.aload_n 0, 1) := by decide +kernel
theorem dA_wire_12 : decode prog_1_method_3_code 12 = .ok (.getfield 12, 3) := by decide +kernel
theorem dA_wire_15 : decode prog_1_method_3_code 15 = .ok (.iload_n 2, 1) := by decide +kernel
theorem dA_wire_16 : decode prog_1_method_3_code 16 = .ok (.invokevirtual 83, 3) := by decide +kernel
theorem dA_wire_19 : decode prog_1_method_3_code 19 = .ok (.ifCond .ne (11), 3) := by decide +kernel
theorem dA_wire_22 : decode prog_1_method_3_code 22 = .ok (.new 87, 3) := by decide +kernel
theorem dA_wire_25 : decode prog_1_method_3_code 25 = .ok (.dup, 1) := by decide +kernel
theorem dA_wire_26 : decode prog_1_method_3_code 26 = .ok (.invokespecial 89, 3) := by decide +kernel
theorem dA_wire_29 : decode prog_1_method_3_code 29 = .ok (.athrow, 1) := by decide +kernel
theorem dA_wire_30 : decode prog_1_method_3_code 30 = .ok (.aload_n 0, 1) := by decide +kernel
theorem dA_wire_31 : decode prog_1_method_3_code 31 = .ok (.getfield 12, 3) := by decide +kernel
theorem dA_wire_34 : decode prog_1_method_3_code 34 = .ok (.iload_n 2, 1) := by decide +kernel
theorem dA_wire_35 : decode prog_1_method_3_code 35 = .ok (.iload_n 3, 1) := by decide +kernel
theorem dA_wire_36 : decode prog_1_method_3_code 36 = .ok (.invokevirtual 90, 3) := by decide +kernel
theorem dA_wire_39 : decode prog_1_method_3_code 39 = .ok (.istore 5, 2) := by decide +kernel
theorem dA_wire_41 : decode prog_1_method_3_code 41 = .ok (.iload 5, 2) := by decide +kernel
theorem dA_wire_43 : decode prog_1_method_3_code 43 = .ok (.iconst (-1), 1) := by decide +kernel
theorem dA_wire_44 : decode prog_1_method_3_code 44 = .ok (.if_icmp .eq (14), 3) := by decide +kernel
theorem dA_wire_47 : decode prog_1_method_3_code 47 = .ok (.iload 4, 2) := by decide +kernel
theorem dA_wire_49 : decode prog_1_method_3_code 49 = .ok (.ifCond .lt (9), 3) := by decide +kernel
theorem dA_wire_52 : decode prog_1_method_3_code 52 = .ok (.iload 4, 2) := by decide +kernel
theorem dA_wire_54 : decode prog_1_method_3_code 54 = .ok (.iconst 4, 1) := by decide +kernel
theorem dA_wire_55 : decode prog_1_method_3_code 55 = .ok (.if_icmp .le (11), 3) := by decide +kernel
theorem dA_wire_58 : decode prog_1_method_3_code 58 = .ok (.new 65, 3) := by decide +kernel
theorem dA_wire_61 : decode prog_1_method_3_code 61 = .ok (.dup, 1) := by decide +kernel
theorem dA_wire_62 : decode prog_1_method_3_code 62 = .ok (.invokespecial 67, 3) := by decide +kernel
theorem dA_wire_65 : decode prog_1_method_3_code 65 = .ok (.athrow, 1) := by decide +kernel
theorem dA_wire_66 : decode prog_1_method_3_code 66 = .ok (.aload_n 0, 1) := by decide +kernel
theorem dA_wire_67 : decode prog_1_method_3_code 67 = .ok (.getfield 12, 3) := by decide +kernel
theorem dA_wire_70 : decode prog_1_method_3_code 70 = .ok (.getfield 94, 3) := by decide +kernel
theorem dA_wire_73 : decode prog_1_method_3_code 73 = .ok (.iload 5, 2) := by decide +kernel
theorem dA_wire_75 : decode prog_1_method_3_code 75 = .ok (.iload_n 1, 1) := by decide +kernel
theorem dA_wire_76 : decode prog_1_method_3_code 76 = .ok (.iastore, 1) := by decide +kernel
theorem dA_wire_77 : decode prog_1_method_3_code 77 = .ok (.aload_n 0, 1) := by decide +kernel
theorem dA_wire_78 : decode prog_1_method_3_code 78 = .ok (.getfield 19, 3) := by decide +kernel
theorem dA_wire_81 : decode prog_1_method_3_code 81 = .ok (.iload 5, 2) := by decide +kernel
theorem dA_wire_83 : decode prog_1_method_3_code 83 = .ok (.iload 4, 2) := by decide +kernel
theorem dA_wire_85 : decode prog_1_method_3_code 85 = .ok (.invokevirtual 97, 3) := by decide +kernel
theorem dA_wire_88 : decode prog_1_method_3_code 88 = .ok (.aload_n 0, 1) := by decide +kernel
theorem dA_wire_89 : decode prog_1_method_3_code 89 = .ok (.getfield 57, 3) := by decide +kernel
theorem dA_wire_92 : decode prog_1_method_3_code 92 = .ok (.aload_n 0, 1) := by decide +kernel
theorem dA_wire_93 : decode prog_1_method_3_code 93 = .ok (.getfield 19, 3) := by decide +kernel
theorem dA_wire_96 : decode prog_1_method_3_code 96 = .ok (.invokevirtual 79, 3) := by decide +kernel
theorem dA_wire_99 : decode prog_1_method_3_code 99 = .ok (.return_, 1) := by decide +kernel
theorem dA_hold_0 : decode prog_1_method_4_code 0 = .ok (.aload_n 0, 1) := by decide +kernel
theorem dA_hold_1 : decode prog_1_method_4_code 1 = .ok (.iload_n 1, 1) := by decide +kernel
theorem dA_hold_2 : decode prog_1_method_4_code 2 = .ok (.iload_n 2, 1) := by decide +kernel
theorem dA_hold_3 : decode prog_1_method_4_code 3 = .ok (.iload_n 3, 1) := by decide +kernel
theorem dA_hold_4 : decode prog_1_method_4_code 4 = .ok (.invokevirtual 100, 3) := by decide +kernel
theorem dA_hold_7 : decode prog_1_method_4_code 7 = .ok (.istore 5, 2) := by decide +kernel
theorem dA_hold_9 : decode prog_1_method_4_code 9 = .ok (.iload 4, 2) := by decide +kernel
theorem dA_hold_11 : decode prog_1_method_4_code 11 = .ok (.invokestatic 104, 3) := by decide +kernel
theorem dA_hold_14 : decode prog_1_method_4_code 14 = .ok (.ifCond .ne (11), 3) := by decide +kernel
theorem dA_hold_17 : decode prog_1_method_4_code 17 = .ok (.new 65, 3) := by decide +kernel
theorem dA_hold_20 : decode prog_1_method_4_code 20 = .ok (.dup, 1) := by decide +kernel
theorem dA_hold_21 : decode prog_1_method_4_code 21 = .ok (.invokespecial 67, 3) := by decide +kernel
theorem dA_hold_24 : decode prog_1_method_4_code 24 = .ok (.athrow, 1) := by decide +kernel
theorem dA_hold_25 : decode prog_1_method_4_code 25 = .ok (.aload_n 0, 1) := by decide +kernel
theorem dA_hold_26 : decode prog_1_method_4_code 26 = .ok (.getfield 19, 3) := by decide +kernel
theorem dA_hold_29 : decode prog_1_method_4_code 29 = .ok (.iload 5, 2) := by decide +kernel
theorem dA_hold_31 : decode prog_1_method_4_code 31 = .ok (.iload_n 3, 1) := by decide +kernel
theorem dA_hold_32 : decode prog_1_method_4_code 32 = .ok (.iload 4, 2) := by decide +kernel
theorem dA_hold_34 : decode prog_1_method_4_code 34 = .ok (.invokevirtual 107, 3) := by decide +kernel
theorem dA_hold_37 : decode prog_1_method_4_code 37 = .ok (.aload_n 0, 1) := by decide +kernel
theorem dA_hold_38 : decode prog_1_method_4_code 38 = .ok (.getfield 57, 3) := by decide +kernel
theorem dA_hold_41 : decode prog_1_method_4_code 41 = .ok (.aload_n 0, 1) := by decide +kernel
theorem dA_hold_42 : decode prog_1_method_4_code 42 = .ok (.getfield 19, 3) := by decide +kernel
theorem dA_hold_45 : decode prog_1_method_4_code 45 = .ok (.invokevirtual 79, 3) := by decide +kernel
theorem dA_hold_48 : decode prog_1_method_4_code 48 = .ok (.return_, 1) := by decide +kernel
theorem dA_held_0 : decode prog_1_method_5_code 0 = .ok (.aload_n 0, 1) := by decide +kernel
theorem dA_held_1 : decode prog_1_method_5_code 1 = .ok (.getfield 19, 3) := by decide +kernel
theorem dA_held_4 : decode prog_1_method_5_code 4 = .ok (.aload_n 0, 1) := by decide +kernel
theorem dA_held_5 : decode prog_1_method_5_code 5 = .ok (.iload_n 1, 1) := by decide +kernel
theorem dA_held_6 : decode prog_1_method_5_code 6 = .ok (.iload_n 2, 1) := by decide +kernel
theorem dA_held_7 : decode prog_1_method_5_code 7 = .ok (.iload_n 3, 1) := by decide +kernel
theorem dA_held_8 : decode prog_1_method_5_code 8 = .ok (.invokevirtual 100, 3) := by decide +kernel
theorem dA_held_11 : decode prog_1_method_5_code 11 = .ok (.iload_n 3, 1) := by decide +kernel
theorem dA_held_12 : decode prog_1_method_5_code 12 = .ok (.invokevirtual 111, 3) := by decide +kernel
theorem dA_held_15 : decode prog_1_method_5_code 15 = .ok (.ireturn, 1) := by decide +kernel
theorem dA_registers_0 : decode prog_1_method_6_code 0 = .ok (.aload_n 0, 1) := by decide +kernel
theorem dA_registers_1 : decode prog_1_method_6_code 1 = .ok (.getfield 19, 3) := by decide +kernel
theorem dA_registers_4 : decode prog_1_method_6_code 4 = .ok (.aload_n 0, 1) := by decide +kernel
theorem dA_registers_5 : decode prog_1_method_6_code 5 = .ok (.iload_n 1, 1) := by decide +kernel
theorem dA_registers_6 : decode prog_1_method_6_code 6 = .ok (.iload_n 2, 1) := by decide +kernel
theorem dA_registers_7 : decode prog_1_method_6_code 7 = .ok (.invokevirtual 114, 3) := by decide +kernel
theorem dA_registers_10 : decode prog_1_method_6_code 10 = .ok (.invokevirtual 117, 3) := by decide +kernel
theorem dA_registers_13 : decode prog_1_method_6_code 13 = .ok (.ireturn, 1) := by decide +kernel
theorem dA_gates_0 : decode prog_1_method_7_code 0 = .ok (.aload_n 0, 1) := by decide +kernel
theorem dA_gates_1 : decode prog_1_method_7_code 1 = .ok (.getfield 12, 3) := by decide +kernel
theorem dA_gates_4 : decode prog_1_method_7_code 4 = .ok (.getfield 68, 3) := by decide +kernel
theorem dA_gates_7 : decode prog_1_method_7_code 7 = .ok (.ireturn, 1) := by decide +kernel
theorem dA_sound_0 : decode prog_1_method_8_code 0 = .ok (.aload_n 0, 1) := by decide +kernel
theorem dA_sound_1 : decode prog_1_method_8_code 1 = .ok (.invokevirtual 121, 3) := by decide +kernel
theorem dA_sound_4 : decode prog_1_method_8_code 4 = .ok (.ireturn, 1) := by decide +kernel
theorem dA_period_0 : decode prog_1_method_9_code 0 = .ok (.aload_n 0, 1) := by decide +kernel
theorem dA_period_1 : decode prog_1_method_9_code 1 = .ok (.invokevirtual 125, 3) := by decide +kernel
theorem dA_period_4 : decode prog_1_method_9_code 4 = .ok (.aload_n 0, 1) := by decide +kernel
theorem dA_period_5 : decode prog_1_method_9_code 5 = .ok (.getfield 36, 3) := by decide +kernel
theorem dA_period_8 : decode prog_1_method_9_code 8 = .ok (.aload_n 0, 1) := by decide +kernel
theorem dA_period_9 : decode prog_1_method_9_code 9 = .ok (.getfield 12, 3) := by decide +kernel
theorem dA_period_12 : decode prog_1_method_9_code 12 = .ok (.aload_n 0, 1) := by decide +kernel
theorem dA_period_13 : decode prog_1_method_9_code 13 = .ok (.getfield 19, 3) := by decide +kernel
theorem dA_period_16 : decode prog_1_method_9_code 16 = .ok (.invokevirtual 128, 3) := by decide +kernel
theorem dA_period_19 : decode prog_1_method_9_code 19 = .ok (.aload_n 0, 1) := by decide +kernel
theorem dA_period_20 : decode prog_1_method_9_code 20 = .ok (.getfield 36, 3) := by decide +kernel
theorem dA_period_23 : decode prog_1_method_9_code 23 = .ok (.aload_n 0, 1) := by decide +kernel
theorem dA_period_24 : decode prog_1_method_9_code 24 = .ok (.getfield 12, 3) := by decide +kernel
theorem dA_period_27 : decode prog_1_method_9_code 27 = .ok (.getfield 68, 3) := by decide +kernel
theorem dA_period_30 : decode prog_1_method_9_code 30 = .ok (.invokevirtual 132, 3) := by decide +kernel
theorem dA_period_33 : decode prog_1_method_9_code 33 = .ok (.ireturn, 1) := by decide +kernel
theorem dA_weight_0 : decode prog_1_method_10_code 0 = .ok (.aload_n 0, 1) := by decide +kernel
theorem dA_weight_1 : decode prog_1_method_10_code 1 = .ok (.iload_n 1, 1) := by decide +kernel
theorem dA_weight_2 : decode prog_1_method_10_code 2 = .ok (.invokevirtual 135, 3) := by decide +kernel
theorem dA_weight_5 : decode prog_1_method_10_code 5 = .ok (.aload_n 0, 1) := by decide +kernel
theorem dA_weight_6 : decode prog_1_method_10_code 6 = .ok (.iload_n 2, 1) := by decide +kernel
theorem dA_weight_7 : decode prog_1_method_10_code 7 = .ok (.invokevirtual 135, 3) := by decide +kernel
theorem dA_weight_10 : decode prog_1_method_10_code 10 = .ok (.aload_n 0, 1) := by decide +kernel
theorem dA_weight_11 : decode prog_1_method_10_code 11 = .ok (.invokevirtual 125, 3) := by decide +kernel
theorem dA_weight_14 : decode prog_1_method_10_code 14 = .ok (.aload_n 0, 1) := by decide +kernel
theorem dA_weight_15 : decode prog_1_method_10_code 15 = .ok (.getfield 36, 3) := by decide +kernel
theorem dA_weight_18 : decode prog_1_method_10_code 18 = .ok (.aload_n 0, 1) := by decide +kernel
theorem dA_weight_19 : decode prog_1_method_10_code 19 = .ok (.getfield 12, 3) := by decide +kernel
theorem dA_weight_22 : decode prog_1_method_10_code 22 = .ok (.aload_n 0, 1) := by decide +kernel
theorem dA_weight_23 : decode prog_1_method_10_code 23 = .ok (.getfield 19, 3) := by decide +kernel
theorem dA_weight_26 : decode prog_1_method_10_code 26 = .ok (.invokevirtual 128, 3) := by decide +kernel
theorem dA_weight_29 : decode prog_1_method_10_code 29 = .ok (.aload_n 0, 1) := by decide +kernel
theorem dA_weight_30 : decode prog_1_method_10_code 30 = .ok (.getfield 36, 3) := by decide +kernel
theorem dA_weight_33 : decode prog_1_method_10_code 33 = .ok (.getfield 139, 3) := by decide +kernel
theorem dA_weight_36 : decode prog_1_method_10_code 36 = .ok (.iload_n 1, 1) := by decide +kernel
theorem dA_weight_37 : decode prog_1_method_10_code 37 = .ok (.aaload, 1) := by decide +kernel
theorem dA_weight_38 : decode prog_1_method_10_code 38 = .ok (.iload_n 2, 1) := by decide +kernel
theorem dA_weight_39 : decode prog_1_method_10_code 39 = .ok (.iaload, 1) := by decide +kernel
theorem dA_weight_40 : decode prog_1_method_10_code 40 = .ok (.ireturn, 1) := by decide +kernel
theorem dA_delay_0 : decode prog_1_method_11_code 0 = .ok (.aload_n 0, 1) := by decide +kernel
theorem dA_delay_1 : decode prog_1_method_11_code 1 = .ok (.iload_n 1, 1) := by decide +kernel
theorem dA_delay_2 : decode prog_1_method_11_code 2 = .ok (.invokevirtual 135, 3) := by decide +kernel
theorem dA_delay_5 : decode prog_1_method_11_code 5 = .ok (.aload_n 0, 1) := by decide +kernel
theorem dA_delay_6 : decode prog_1_method_11_code 6 = .ok (.iload_n 2, 1) := by decide +kernel
theorem dA_delay_7 : decode prog_1_method_11_code 7 = .ok (.invokevirtual 135, 3) := by decide +kernel
theorem dA_delay_10 : decode prog_1_method_11_code 10 = .ok (.aload_n 0, 1) := by decide +kernel
theorem dA_delay_11 : decode prog_1_method_11_code 11 = .ok (.invokevirtual 125, 3) := by decide +kernel
theorem dA_delay_14 : decode prog_1_method_11_code 14 = .ok (.aload_n 0, 1) := by decide +kernel
theorem dA_delay_15 : decode prog_1_method_11_code 15 = .ok (.getfield 36, 3) := by decide +kernel
theorem dA_delay_18 : decode prog_1_method_11_code 18 = .ok (.aload_n 0, 1) := by decide +kernel
theorem dA_delay_19 : decode prog_1_method_11_code 19 = .ok (.getfield 12, 3) := by decide +kernel
theorem dA_delay_22 : decode prog_1_method_11_code 22 = .ok (.aload_n 0, 1) := by decide +kernel
theorem dA_delay_23 : decode prog_1_method_11_code 23 = .ok (.getfield 19, 3) := by decide +kernel
theorem dA_delay_26 : decode prog_1_method_11_code 26 = .ok (.invokevirtual 128, 3) := by decide +kernel
theorem dA_delay_29 : decode prog_1_method_11_code 29 = .ok (.aload_n 0, 1) := by decide +kernel
theorem dA_delay_30 : decode prog_1_method_11_code 30 = .ok (.getfield 36, 3) := by decide +kernel
theorem dA_delay_33 : decode prog_1_method_11_code 33 = .ok (.getfield 143, 3) := by decide +kernel
theorem dA_delay_36 : decode prog_1_method_11_code 36 = .ok (.iload_n 1, 1) := by decide +kernel
theorem dA_delay_37 : decode prog_1_method_11_code 37 = .ok (.aaload, 1) := by decide +kernel
theorem dA_delay_38 : decode prog_1_method_11_code 38 = .ok (.iload_n 2, 1) := by decide +kernel
theorem dA_delay_39 : decode prog_1_method_11_code 39 = .ok (.iaload, 1) := by decide +kernel
theorem dA_delay_40 : decode prog_1_method_11_code 40 = .ok (.ireturn, 1) := by decide +kernel
theorem dA_least_0 : decode prog_1_method_12_code 0 = .ok (.aload_n 0, 1) := by decide +kernel
theorem dA_least_1 : decode prog_1_method_12_code 1 = .ok (.invokevirtual 125, 3) := by decide +kernel
theorem dA_least_4 : decode prog_1_method_12_code 4 = .ok (.aload_n 0, 1) := by decide +kernel
theorem dA_least_5 : decode prog_1_method_12_code 5 = .ok (.getfield 36, 3) := by decide +kernel
theorem dA_least_8 : decode prog_1_method_12_code 8 = .ok (.aload_n 0, 1) := by decide +kernel
theorem dA_least_9 : decode prog_1_method_12_code 9 = .ok (.getfield 12, 3) := by decide +kernel
theorem dA_least_12 : decode prog_1_method_12_code 12 = .ok (.aload_n 0, 1) := by decide +kernel
theorem dA_least_13 : decode prog_1_method_12_code 13 = .ok (.getfield 19, 3) := by decide +kernel
theorem dA_least_16 : decode prog_1_method_12_code 16 = .ok (.invokevirtual 128, 3) := by decide +kernel
theorem dA_least_19 : decode prog_1_method_12_code 19 = .ok (.iconst 0, 1) := by decide +kernel
theorem dA_least_20 : decode prog_1_method_12_code 20 = .ok (.istore_n 1, 1) := by decide +kernel
theorem dA_least_21 : decode prog_1_method_12_code 21 = .ok (.aload_n 0, 1) := by decide +kernel
theorem dA_least_22 : decode prog_1_method_12_code 22 = .ok (.getfield 36, 3) := by decide +kernel
theorem dA_least_25 : decode prog_1_method_12_code 25 = .ok (.aload_n 0, 1) := by decide +kernel
theorem dA_least_26 : decode prog_1_method_12_code 26 = .ok (.getfield 12, 3) := by decide +kernel
theorem dA_least_29 : decode prog_1_method_12_code 29 = .ok (.getfield 68, 3) := by decide +kernel
theorem dA_least_32 : decode prog_1_method_12_code 32 = .ok (.invokevirtual 132, 3) := by decide +kernel
theorem dA_least_35 : decode prog_1_method_12_code 35 = .ok (.istore_n 2, 1) := by decide +kernel
theorem dA_least_36 : decode prog_1_method_12_code 36 = .ok (.iconst 0, 1) := by decide +kernel
theorem dA_least_37 : decode prog_1_method_12_code 37 = .ok (.istore_n 3, 1) := by decide +kernel
theorem dA_least_38 : decode prog_1_method_12_code 38 = .ok (.iload_n 3, 1) := by decide +kernel
theorem dA_least_39 : decode prog_1_method_12_code 39 = .ok (.sipush (600), 3) := by decide +kernel
theorem dA_least_42 : decode prog_1_method_12_code 42 = .ok (.if_icmp .ge (72), 3) := by decide +kernel
theorem dA_least_45 : decode prog_1_method_12_code 45 = .ok (.iload_n 1, 1) := by decide +kernel
theorem dA_least_46 : decode prog_1_method_12_code 46 = .ok (.iload_n 2, 1) := by decide +kernel
theorem dA_least_47 : decode prog_1_method_12_code 47 = .ok (.if_icmp .ge (67), 3) := by decide +kernel
theorem dA_least_50 : decode prog_1_method_12_code 50 = .ok (.iload_n 1, 1) := by decide +kernel
theorem dA_least_51 : decode prog_1_method_12_code 51 = .ok (.iload_n 2, 1) := by decide +kernel
theorem dA_least_52 : decode prog_1_method_12_code 52 = .ok (.iadd, 1) := by decide +kernel
theorem dA_least_53 : decode prog_1_method_12_code 53 = .ok (.iconst 2, 1) := by decide +kernel
theorem dA_least_54 : decode prog_1_method_12_code 54 = .ok (.idiv, 1) := by decide +kernel
theorem dA_least_55 : decode prog_1_method_12_code 55 = .ok (.istore 4, 2) := by decide +kernel
theorem dA_least_57 : decode prog_1_method_12_code 57 = .ok (.aload_n 0, 1) := by decide +kernel
theorem dA_least_58 : decode prog_1_method_12_code 58 = .ok (.getfield 43, 3) := by decide +kernel
theorem dA_least_61 : decode prog_1_method_12_code 61 = .ok (.aload_n 0, 1) := by decide +kernel
theorem dA_least_62 : decode prog_1_method_12_code 62 = .ok (.getfield 12, 3) := by decide +kernel
theorem dA_least_65 : decode prog_1_method_12_code 65 = .ok (.aload_n 0, 1) := by decide +kernel
theorem dA_least_66 : decode prog_1_method_12_code 66 = .ok (.getfield 19, 3) := by decide +kernel
theorem dA_least_69 : decode prog_1_method_12_code 69 = .ok (.aload_n 0, 1) := by decide +kernel
theorem dA_least_70 : decode prog_1_method_12_code 70 = .ok (.getfield 36, 3) := by decide +kernel
theorem dA_least_73 : decode prog_1_method_12_code 73 = .ok (.iload 4, 2) := by decide +kernel
theorem dA_least_75 : decode prog_1_method_12_code 75 = .ok (.invokevirtual 146, 3) := by decide +kernel
theorem dA_least_78 : decode prog_1_method_12_code 78 = .ok (.aload_n 0, 1) := by decide +kernel
theorem dA_least_79 : decode prog_1_method_12_code 79 = .ok (.getfield 43, 3) := by decide +kernel
theorem dA_least_82 : decode prog_1_method_12_code 82 = .ok (.aload_n 0, 1) := by decide +kernel
theorem dA_least_83 : decode prog_1_method_12_code 83 = .ok (.getfield 12, 3) := by decide +kernel
theorem dA_least_86 : decode prog_1_method_12_code 86 = .ok (.getfield 68, 3) := by decide +kernel
theorem dA_least_89 : decode prog_1_method_12_code 89 = .ok (.bipush (6), 2) := by decide +kernel
theorem dA_least_91 : decode prog_1_method_12_code 91 = .ok (.invokevirtual 150, 3) := by decide +kernel
theorem dA_least_94 : decode prog_1_method_12_code 94 = .ok (.ifCond .eq (9), 3) := by decide +kernel
theorem dA_least_97 : decode prog_1_method_12_code 97 = .ok (.iload 4, 2) := by decide +kernel
theorem dA_least_99 : decode prog_1_method_12_code 99 = .ok (.istore_n 2, 1) := by decide +kernel
theorem dA_least_100 : decode prog_1_method_12_code 100 = .ok (.goto (8), 3) := by decide +kernel
theorem dA_least_103 : decode prog_1_method_12_code 103 = .ok (.iload 4, 2) := by decide +kernel
theorem dA_least_105 : decode prog_1_method_12_code 105 = .ok (.iconst 1, 1) := by decide +kernel
theorem dA_least_106 : decode prog_1_method_12_code 106 = .ok (.iadd, 1) := by decide +kernel
theorem dA_least_107 : decode prog_1_method_12_code 107 = .ok (.istore_n 1, 1) := by decide +kernel
theorem dA_least_108 : decode prog_1_method_12_code 108 = .ok (.iinc 3 (1), 3) := by decide +kernel
theorem dA_least_111 : decode prog_1_method_12_code 111 = .ok (.goto (-73), 3) := by decide +kernel
theorem dA_least_114 : decode prog_1_method_12_code 114 = .ok (.iload_n 2, 1) := by decide +kernel
theorem dA_least_115 : decode prog_1_method_12_code 115 = .ok (.ireturn, 1) := by decide +kernel
theorem dA_shared_0 : decode prog_1_method_13_code 0 = .ok (.aload_n 0, 1) := by decide +kernel
theorem dA_shared_1 : decode prog_1_method_13_code 1 = .ok (.invokevirtual 125, 3) := by decide +kernel
theorem dA_shared_4 : decode prog_1_method_13_code 4 = .ok (.iconst 0, 1) := by decide +kernel
theorem dA_shared_5 : decode prog_1_method_13_code 5 = .ok (.istore_n 1, 1) := by decide +kernel
theorem dA_shared_6 : decode prog_1_method_13_code 6 = .ok (.bipush (-3), 2) := by decide +kernel
theorem dA_shared_8 : decode prog_1_method_13_code 8 = .ok (.istore_n 2, 1) := by decide +kernel
theorem dA_shared_9 : decode prog_1_method_13_code 9 = .ok (.iload_n 2, 1) := by decide +kernel
theorem dA_shared_10 : decode prog_1_method_13_code 10 = .ok (.aload_n 0, 1) := by decide +kernel
theorem dA_shared_11 : decode prog_1_method_13_code 11 = .ok (.getfield 12, 3) := by decide +kernel
theorem dA_shared_14 : decode prog_1_method_13_code 14 = .ok (.getfield 68, 3) := by decide +kernel
theorem dA_shared_17 : decode prog_1_method_13_code 17 = .ok (.if_icmp .gt (17), 3) := by decide +kernel
theorem dA_shared_20 : decode prog_1_method_13_code 20 = .ok (.iload_n 1, 1) := by decide +kernel
theorem dA_shared_21 : decode prog_1_method_13_code 21 = .ok (.aload_n 0, 1) := by decide +kernel
theorem dA_shared_22 : decode prog_1_method_13_code 22 = .ok (.iload_n 2, 1) := by decide +kernel
theorem dA_shared_23 : decode prog_1_method_13_code 23 = .ok (.invokevirtual 154, 3) := by decide +kernel
theorem dA_shared_26 : decode prog_1_method_13_code 26 = .ok (.iadd, 1) := by decide +kernel
theorem dA_shared_27 : decode prog_1_method_13_code 27 = .ok (.istore_n 1, 1) := by decide +kernel
theorem dA_shared_28 : decode prog_1_method_13_code 28 = .ok (.iinc 2 (1), 3) := by decide +kernel
theorem dA_shared_31 : decode prog_1_method_13_code 31 = .ok (.goto (-22), 3) := by decide +kernel
theorem dA_shared_34 : decode prog_1_method_13_code 34 = .ok (.iload_n 1, 1) := by decide +kernel
theorem dA_shared_35 : decode prog_1_method_13_code 35 = .ok (.ireturn, 1) := by decide +kernel
theorem dA_retime_0 : decode prog_1_method_14_code 0 = .ok (.aload_n 0, 1) := by decide +kernel
theorem dA_retime_1 : decode prog_1_method_14_code 1 = .ok (.invokevirtual 125, 3) := by decide +kernel
theorem dA_retime_4 : decode prog_1_method_14_code 4 = .ok (.iload_n 1, 1) := by decide +kernel
theorem dA_retime_5 : decode prog_1_method_14_code 5 = .ok (.ifCond .lt (10), 3) := by decide +kernel
theorem dA_retime_8 : decode prog_1_method_14_code 8 = .ok (.iload_n 1, 1) := by decide +kernel
theorem dA_retime_9 : decode prog_1_method_14_code 9 = .ok (.sipush (600), 3) := by decide +kernel
theorem dA_retime_12 : decode prog_1_method_14_code 12 = .ok (.if_icmp .le (11), 3) := by decide +kernel
theorem dA_retime_15 : decode prog_1_method_14_code 15 = .ok (.new 65, 3) := by decide +kernel
theorem dA_retime_18 : decode prog_1_method_14_code 18 = .ok (.dup, 1) := by decide +kernel
theorem dA_retime_19 : decode prog_1_method_14_code 19 = .ok (.invokespecial 67, 3) := by decide +kernel
theorem dA_retime_22 : decode prog_1_method_14_code 22 = .ok (.athrow, 1) := by decide +kernel
theorem dA_retime_23 : decode prog_1_method_14_code 23 = .ok (.aload_n 0, 1) := by decide +kernel
theorem dA_retime_24 : decode prog_1_method_14_code 24 = .ok (.getfield 36, 3) := by decide +kernel
theorem dA_retime_27 : decode prog_1_method_14_code 27 = .ok (.aload_n 0, 1) := by decide +kernel
theorem dA_retime_28 : decode prog_1_method_14_code 28 = .ok (.getfield 12, 3) := by decide +kernel
theorem dA_retime_31 : decode prog_1_method_14_code 31 = .ok (.aload_n 0, 1) := by decide +kernel
theorem dA_retime_32 : decode prog_1_method_14_code 32 = .ok (.getfield 19, 3) := by decide +kernel
theorem dA_retime_35 : decode prog_1_method_14_code 35 = .ok (.invokevirtual 128, 3) := by decide +kernel
theorem dA_retime_38 : decode prog_1_method_14_code 38 = .ok (.aload_n 0, 1) := by decide +kernel
theorem dA_retime_39 : decode prog_1_method_14_code 39 = .ok (.getfield 43, 3) := by decide +kernel
theorem dA_retime_42 : decode prog_1_method_14_code 42 = .ok (.aload_n 0, 1) := by decide +kernel
theorem dA_retime_43 : decode prog_1_method_14_code 43 = .ok (.getfield 12, 3) := by decide +kernel
theorem dA_retime_46 : decode prog_1_method_14_code 46 = .ok (.aload_n 0, 1) := by decide +kernel
theorem dA_retime_47 : decode prog_1_method_14_code 47 = .ok (.getfield 19, 3) := by decide +kernel
theorem dA_retime_50 : decode prog_1_method_14_code 50 = .ok (.aload_n 0, 1) := by decide +kernel
theorem dA_retime_51 : decode prog_1_method_14_code 51 = .ok (.getfield 36, 3) := by decide +kernel
theorem dA_retime_54 : decode prog_1_method_14_code 54 = .ok (.iload_n 1, 1) := by decide +kernel
theorem dA_retime_55 : decode prog_1_method_14_code 55 = .ok (.invokevirtual 146, 3) := by decide +kernel
theorem dA_retime_58 : decode prog_1_method_14_code 58 = .ok (.aload_n 0, 1) := by decide +kernel
theorem dA_retime_59 : decode prog_1_method_14_code 59 = .ok (.bipush (6), 2) := by decide +kernel
theorem dA_retime_61 : decode prog_1_method_14_code 61 = .ok (.invokevirtual 157, 3) := by decide +kernel
theorem dA_retime_64 : decode prog_1_method_14_code 64 = .ok (.ifCond .eq (5), 3) := by decide +kernel
theorem dA_retime_67 : decode prog_1_method_14_code 67 = .ok (.iconst 2, 1) := by decide +kernel
theorem dA_retime_68 : decode prog_1_method_14_code 68 = .ok (.ireturn, 1) := by decide +kernel
theorem dA_retime_69 : decode prog_1_method_14_code 69 = .ok (.aload_n 0, 1) := by decide +kernel
theorem dA_retime_70 : decode prog_1_method_14_code 70 = .ok (.iconst 0, 1) := by decide +kernel
theorem dA_retime_71 : decode prog_1_method_14_code 71 = .ok (.invokevirtual 157, 3) := by decide +kernel
theorem dA_retime_74 : decode prog_1_method_14_code 74 = .ok (.ifCond .eq (7), 3) := by decide +kernel
theorem dA_retime_77 : decode prog_1_method_14_code 77 = .ok (.iconst 1, 1) := by decide +kernel
theorem dA_retime_78 : decode prog_1_method_14_code 78 = .ok (.goto (4), 3) := by decide +kernel
theorem dA_retime_81 : decode prog_1_method_14_code 81 = .ok (.iconst 0, 1) := by decide +kernel
theorem dA_retime_82 : decode prog_1_method_14_code 82 = .ok (.ireturn, 1) := by decide +kernel
theorem dA_label_0 : decode prog_1_method_15_code 0 = .ok (.aload_n 0, 1) := by decide +kernel
theorem dA_label_1 : decode prog_1_method_15_code 1 = .ok (.iload_n 1, 1) := by decide +kernel
theorem dA_label_2 : decode prog_1_method_15_code 2 = .ok (.invokevirtual 135, 3) := by decide +kernel
theorem dA_label_5 : decode prog_1_method_15_code 5 = .ok (.aload_n 0, 1) := by decide +kernel
theorem dA_label_6 : decode prog_1_method_15_code 6 = .ok (.getfield 61, 3) := by decide +kernel
theorem dA_label_9 : decode prog_1_method_15_code 9 = .ok (.iload_n 1, 1) := by decide +kernel
theorem dA_label_10 : decode prog_1_method_15_code 10 = .ok (.iaload, 1) := by decide +kernel
theorem dA_label_11 : decode prog_1_method_15_code 11 = .ok (.ireturn, 1) := by decide +kernel
theorem dA_tick_0 : decode prog_1_method_16_code 0 = .ok (.aload_n 0, 1) := by decide +kernel
theorem dA_tick_1 : decode prog_1_method_16_code 1 = .ok (.invokevirtual 125, 3) := by decide +kernel
theorem dA_tick_4 : decode prog_1_method_16_code 4 = .ok (.iload_n 1, 1) := by decide +kernel
theorem dA_tick_5 : decode prog_1_method_16_code 5 = .ok (.invokestatic 104, 3) := by decide +kernel
theorem dA_tick_8 : decode prog_1_method_16_code 8 = .ok (.ifCond .eq (17), 3) := by decide +kernel
theorem dA_tick_11 : decode prog_1_method_16_code 11 = .ok (.iload_n 2, 1) := by decide +kernel
theorem dA_tick_12 : decode prog_1_method_16_code 12 = .ok (.invokestatic 104, 3) := by decide +kernel
theorem dA_tick_15 : decode prog_1_method_16_code 15 = .ok (.ifCond .eq (10), 3) := by decide +kernel
theorem dA_tick_18 : decode prog_1_method_16_code 18 = .ok (.iload_n 3, 1) := by decide +kernel
theorem dA_tick_19 : decode prog_1_method_16_code 19 = .ok (.invokestatic 104, 3) := by decide +kernel
theorem dA_tick_22 : decode prog_1_method_16_code 22 = .ok (.ifCond .ne (11), 3) := by decide +kernel
theorem dA_tick_25 : decode prog_1_method_16_code 25 = .ok (.new 65, 3) := by decide +kernel
theorem dA_tick_28 : decode prog_1_method_16_code 28 = .ok (.dup, 1) := by decide +kernel
theorem dA_tick_29 : decode prog_1_method_16_code 29 = .ok (.invokespecial 67, 3) := by decide +kernel
theorem dA_tick_32 : decode prog_1_method_16_code 32 = .ok (.athrow, 1) := by decide +kernel
theorem dA_tick_33 : decode prog_1_method_16_code 33 = .ok (.aload_n 0, 1) := by decide +kernel
theorem dA_tick_34 : decode prog_1_method_16_code 34 = .ok (.getfield 57, 3) := by decide +kernel
theorem dA_tick_37 : decode prog_1_method_16_code 37 = .ok (.iload_n 1, 1) := by decide +kernel
theorem dA_tick_38 : decode prog_1_method_16_code 38 = .ok (.iload_n 2, 1) := by decide +kernel
theorem dA_tick_39 : decode prog_1_method_16_code 39 = .ok (.iload_n 3, 1) := by decide +kernel
theorem dA_tick_40 : decode prog_1_method_16_code 40 = .ok (.invokevirtual 160, 3) := by decide +kernel
theorem dA_tick_43 : decode prog_1_method_16_code 43 = .ok (.aload_n 0, 1) := by decide +kernel
theorem dA_tick_44 : decode prog_1_method_16_code 44 = .ok (.getfield 57, 3) := by decide +kernel
theorem dA_tick_47 : decode prog_1_method_16_code 47 = .ok (.aload_n 0, 1) := by decide +kernel
theorem dA_tick_48 : decode prog_1_method_16_code 48 = .ok (.getfield 12, 3) := by decide +kernel
theorem dA_tick_51 : decode prog_1_method_16_code 51 = .ok (.aload_n 0, 1) := by decide +kernel
theorem dA_tick_52 : decode prog_1_method_16_code 52 = .ok (.getfield 29, 3) := by decide +kernel
theorem dA_tick_55 : decode prog_1_method_16_code 55 = .ok (.invokevirtual 163, 3) := by decide +kernel
theorem dA_tick_58 : decode prog_1_method_16_code 58 = .ok (.aload_n 0, 1) := by decide +kernel
theorem dA_tick_59 : decode prog_1_method_16_code 59 = .ok (.getfield 57, 3) := by decide +kernel
theorem dA_tick_62 : decode prog_1_method_16_code 62 = .ok (.aload_n 0, 1) := by decide +kernel
theorem dA_tick_63 : decode prog_1_method_16_code 63 = .ok (.getfield 12, 3) := by decide +kernel
theorem dA_tick_66 : decode prog_1_method_16_code 66 = .ok (.invokevirtual 167, 3) := by decide +kernel
theorem dA_tick_69 : decode prog_1_method_16_code 69 = .ok (.istore 4, 2) := by decide +kernel
theorem dA_tick_71 : decode prog_1_method_16_code 71 = .ok (.aload_n 0, 1) := by decide +kernel
theorem dA_tick_72 : decode prog_1_method_16_code 72 = .ok (.getfield 57, 3) := by decide +kernel
theorem dA_tick_75 : decode prog_1_method_16_code 75 = .ok (.aload_n 0, 1) := by decide +kernel
theorem dA_tick_76 : decode prog_1_method_16_code 76 = .ok (.getfield 12, 3) := by decide +kernel
theorem dA_tick_79 : decode prog_1_method_16_code 79 = .ok (.invokevirtual 171, 3) := by decide +kernel
theorem dA_tick_82 : decode prog_1_method_16_code 82 = .ok (.iload 4, 2) := by decide +kernel
theorem dA_tick_84 : decode prog_1_method_16_code 84 = .ok (.ireturn, 1) := by decide +kernel
theorem dA_restart_0 : decode prog_1_method_17_code 0 = .ok (.aload_n 0, 1) := by decide +kernel
theorem dA_restart_1 : decode prog_1_method_17_code 1 = .ok (.getfield 57, 3) := by decide +kernel
theorem dA_restart_4 : decode prog_1_method_17_code 4 = .ok (.aload_n 0, 1) := by decide +kernel
theorem dA_restart_5 : decode prog_1_method_17_code 5 = .ok (.getfield 19, 3) := by decide +kernel
theorem dA_restart_8 : decode prog_1_method_17_code 8 = .ok (.invokevirtual 79, 3) := by decide +kernel
theorem dA_restart_11 : decode prog_1_method_17_code 11 = .ok (.return_, 1) := by decide +kernel
theorem dA_isValue_0 : decode prog_1_method_18_code 0 = .ok (.iload_n 0, 1) := by decide +kernel
theorem dA_isValue_1 : decode prog_1_method_18_code 1 = .ok (.ifCond .lt (12), 3) := by decide +kernel
theorem dA_isValue_4 : decode prog_1_method_18_code 4 = .ok (.iload_n 0, 1) := by decide +kernel
theorem dA_isValue_5 : decode prog_1_method_18_code 5 = .ok (.iconst 2, 1) := by decide +kernel
theorem dA_isValue_6 : decode prog_1_method_18_code 6 = .ok (.if_icmp .gt (7), 3) := by decide +kernel
theorem dA_isValue_9 : decode prog_1_method_18_code 9 = .ok (.iconst 1, 1) := by decide +kernel
theorem dA_isValue_10 : decode prog_1_method_18_code 10 = .ok (.goto (4), 3) := by decide +kernel
theorem dA_isValue_13 : decode prog_1_method_18_code 13 = .ok (.iconst 0, 1) := by decide +kernel
theorem dA_isValue_14 : decode prog_1_method_18_code 14 = .ok (.ireturn, 1) := by decide +kernel
theorem dA_needGate_0 : decode prog_1_method_19_code 0 = .ok (.aload_n 0, 1) := by decide +kernel
theorem dA_needGate_1 : decode prog_1_method_19_code 1 = .ok (.getfield 12, 3) := by decide +kernel
theorem dA_needGate_4 : decode prog_1_method_19_code 4 = .ok (.iload_n 1, 1) := by decide +kernel
theorem dA_needGate_5 : decode prog_1_method_19_code 5 = .ok (.invokevirtual 175, 3) := by decide +kernel
theorem dA_needGate_8 : decode prog_1_method_19_code 8 = .ok (.ifCond .ne (11), 3) := by decide +kernel
theorem dA_needGate_11 : decode prog_1_method_19_code 11 = .ok (.new 87, 3) := by decide +kernel
theorem dA_needGate_14 : decode prog_1_method_19_code 14 = .ok (.dup, 1) := by decide +kernel
theorem dA_needGate_15 : decode prog_1_method_19_code 15 = .ok (.invokespecial 89, 3) := by decide +kernel
theorem dA_needGate_18 : decode prog_1_method_19_code 18 = .ok (.athrow, 1) := by decide +kernel
theorem dA_needGate_19 : decode prog_1_method_19_code 19 = .ok (.return_, 1) := by decide +kernel
theorem dA_needSound_0 : decode prog_1_method_20_code 0 = .ok (.aload_n 0, 1) := by decide +kernel
theorem dA_needSound_1 : decode prog_1_method_20_code 1 = .ok (.invokevirtual 121, 3) := by decide +kernel
theorem dA_needSound_4 : decode prog_1_method_20_code 4 = .ok (.ifCond .ne (11), 3) := by decide +kernel
theorem dA_needSound_7 : decode prog_1_method_20_code 7 = .ok (.new 178, 3) := by decide +kernel
theorem dA_needSound_10 : decode prog_1_method_20_code 10 = .ok (.dup, 1) := by decide +kernel
theorem dA_needSound_11 : decode prog_1_method_20_code 11 = .ok (.invokespecial 180, 3) := by decide +kernel
theorem dA_needSound_14 : decode prog_1_method_20_code 14 = .ok (.athrow, 1) := by decide +kernel
theorem dA_needSound_15 : decode prog_1_method_20_code 15 = .ok (.return_, 1) := by decide +kernel
theorem dA_isSound_0 : decode prog_1_method_21_code 0 = .ok (.aload_n 0, 1) := by decide +kernel
theorem dA_isSound_1 : decode prog_1_method_21_code 1 = .ok (.getfield 12, 3) := by decide +kernel
theorem dA_isSound_4 : decode prog_1_method_21_code 4 = .ok (.invokevirtual 181, 3) := by decide +kernel
theorem dA_isSound_7 : decode prog_1_method_21_code 7 = .ok (.ifCond .eq (25), 3) := by decide +kernel
theorem dA_isSound_10 : decode prog_1_method_21_code 10 = .ok (.aload_n 0, 1) := by decide +kernel
theorem dA_isSound_11 : decode prog_1_method_21_code 11 = .ok (.getfield 29, 3) := by decide +kernel
theorem dA_isSound_14 : decode prog_1_method_21_code 14 = .ok (.aload_n 0, 1) := by decide +kernel
theorem dA_isSound_15 : decode prog_1_method_21_code 15 = .ok (.getfield 12, 3) := by decide +kernel
theorem dA_isSound_18 : decode prog_1_method_21_code 18 = .ok (.aload_n 0, 1) := by decide +kernel
theorem dA_isSound_19 : decode prog_1_method_21_code 19 = .ok (.getfield 19, 3) := by decide +kernel
theorem dA_isSound_22 : decode prog_1_method_21_code 22 = .ok (.invokevirtual 184, 3) := by decide +kernel
theorem dA_isSound_25 : decode prog_1_method_21_code 25 = .ok (.ifCond .eq (7), 3) := by decide +kernel
theorem dA_isSound_28 : decode prog_1_method_21_code 28 = .ok (.iconst 1, 1) := by decide +kernel
theorem dA_isSound_29 : decode prog_1_method_21_code 29 = .ok (.goto (4), 3) := by decide +kernel
theorem dA_isSound_32 : decode prog_1_method_21_code 32 = .ok (.iconst 0, 1) := by decide +kernel
theorem dA_isSound_33 : decode prog_1_method_21_code 33 = .ok (.ireturn, 1) := by decide +kernel
theorem dA_wireTo_0 : decode prog_1_method_22_code 0 = .ok (.aload_n 0, 1) := by decide +kernel
theorem dA_wireTo_1 : decode prog_1_method_22_code 1 = .ok (.getfield 12, 3) := by decide +kernel
theorem dA_wireTo_4 : decode prog_1_method_22_code 4 = .ok (.iload_n 1, 1) := by decide +kernel
theorem dA_wireTo_5 : decode prog_1_method_22_code 5 = .ok (.iload_n 2, 1) := by decide +kernel
theorem dA_wireTo_6 : decode prog_1_method_22_code 6 = .ok (.invokevirtual 90, 3) := by decide +kernel
theorem dA_wireTo_9 : decode prog_1_method_22_code 9 = .ok (.istore_n 3, 1) := by decide +kernel
theorem dA_wireTo_10 : decode prog_1_method_22_code 10 = .ok (.iload_n 3, 1) := by decide +kernel
theorem dA_wireTo_11 : decode prog_1_method_22_code 11 = .ok (.iconst (-1), 1) := by decide +kernel
theorem dA_wireTo_12 : decode prog_1_method_22_code 12 = .ok (.if_icmp .eq (15), 3) := by decide +kernel
theorem dA_wireTo_15 : decode prog_1_method_22_code 15 = .ok (.aload_n 0, 1) := by decide +kernel
theorem dA_wireTo_16 : decode prog_1_method_22_code 16 = .ok (.getfield 12, 3) := by decide +kernel
theorem dA_wireTo_19 : decode prog_1_method_22_code 19 = .ok (.getfield 94, 3) := by decide +kernel
theorem dA_wireTo_22 : decode prog_1_method_22_code 22 = .ok (.iload_n 3, 1) := by decide +kernel
theorem dA_wireTo_23 : decode prog_1_method_22_code 23 = .ok (.iaload, 1) := by decide +kernel
theorem dA_wireTo_24 : decode prog_1_method_22_code 24 = .ok (.ifCond .ne (11), 3) := by decide +kernel
theorem dA_wireTo_27 : decode prog_1_method_22_code 27 = .ok (.new 87, 3) := by decide +kernel
theorem dA_wireTo_30 : decode prog_1_method_22_code 30 = .ok (.dup, 1) := by decide +kernel
theorem dA_wireTo_31 : decode prog_1_method_22_code 31 = .ok (.invokespecial 89, 3) := by decide +kernel
theorem dA_wireTo_34 : decode prog_1_method_22_code 34 = .ok (.athrow, 1) := by decide +kernel
theorem dA_wireTo_35 : decode prog_1_method_22_code 35 = .ok (.iload_n 3, 1) := by decide +kernel
theorem dA_wireTo_36 : decode prog_1_method_22_code 36 = .ok (.ireturn, 1) := by decide +kernel
theorem dA_registerWire_0 : decode prog_1_method_23_code 0 = .ok (.aload_n 0, 1) := by decide +kernel
theorem dA_registerWire_1 : decode prog_1_method_23_code 1 = .ok (.iload_n 1, 1) := by decide +kernel
theorem dA_registerWire_2 : decode prog_1_method_23_code 2 = .ok (.iload_n 2, 1) := by decide +kernel
theorem dA_registerWire_3 : decode prog_1_method_23_code 3 = .ok (.invokevirtual 114, 3) := by decide +kernel
theorem dA_registerWire_6 : decode prog_1_method_23_code 6 = .ok (.istore 4, 2) := by decide +kernel
theorem dA_registerWire_8 : decode prog_1_method_23_code 8 = .ok (.iload_n 3, 1) := by decide +kernel
theorem dA_registerWire_9 : decode prog_1_method_23_code 9 = .ok (.ifCond .lt (16), 3) := by decide +kernel
theorem dA_registerWire_12 : decode prog_1_method_23_code 12 = .ok (.iload_n 3, 1) := by decide +kernel
theorem dA_registerWire_13 : decode prog_1_method_23_code 13 = .ok (.aload_n 0, 1) := by decide +kernel
theorem dA_registerWire_14 : decode prog_1_method_23_code 14 = .ok (.getfield 19, 3) := by decide +kernel
theorem dA_registerWire_17 : decode prog_1_method_23_code 17 = .ok (.iload 4, 2) := by decide +kernel
theorem dA_registerWire_19 : decode prog_1_method_23_code 19 = .ok (.invokevirtual 117, 3) := by decide +kernel
theorem dA_registerWire_22 : decode prog_1_method_23_code 22 = .ok (.if_icmp .lt (11), 3) := by decide +kernel
theorem dA_registerWire_25 : decode prog_1_method_23_code 25 = .ok (.new 87, 3) := by decide +kernel
theorem dA_registerWire_28 : decode prog_1_method_23_code 28 = .ok (.dup, 1) := by decide +kernel
theorem dA_registerWire_29 : decode prog_1_method_23_code 29 = .ok (.invokespecial 89, 3) := by decide +kernel
theorem dA_registerWire_32 : decode prog_1_method_23_code 32 = .ok (.athrow, 1) := by decide +kernel
theorem dA_registerWire_33 : decode prog_1_method_23_code 33 = .ok (.iload 4, 2) := by decide +kernel
theorem dA_registerWire_35 : decode prog_1_method_23_code 35 = .ok (.ireturn, 1) := by decide +kernel
theorem dA_mostFrom_0 : decode prog_1_method_24_code 0 = .ok (.iconst 0, 1) := by decide +kernel
theorem dA_mostFrom_1 : decode prog_1_method_24_code 1 = .ok (.istore_n 2, 1) := by decide +kernel
theorem dA_mostFrom_2 : decode prog_1_method_24_code 2 = .ok (.iconst 0, 1) := by decide +kernel
theorem dA_mostFrom_3 : decode prog_1_method_24_code 3 = .ok (.istore_n 3, 1) := by decide +kernel
theorem dA_mostFrom_4 : decode prog_1_method_24_code 4 = .ok (.iload_n 3, 1) := by decide +kernel
theorem dA_mostFrom_5 : decode prog_1_method_24_code 5 = .ok (.bipush (27), 2) := by decide +kernel
theorem dA_mostFrom_7 : decode prog_1_method_24_code 7 = .ok (.if_icmp .ge (35), 3) := by decide +kernel
theorem dA_mostFrom_10 : decode prog_1_method_24_code 10 = .ok (.aload_n 0, 1) := by decide +kernel
theorem dA_mostFrom_11 : decode prog_1_method_24_code 11 = .ok (.getfield 12, 3) := by decide +kernel
theorem dA_mostFrom_14 : decode prog_1_method_24_code 14 = .ok (.getfield 94, 3) := by decide +kernel
theorem dA_mostFrom_17 : decode prog_1_method_24_code 17 = .ok (.iload_n 3, 1) := by decide +kernel
theorem dA_mostFrom_18 : decode prog_1_method_24_code 18 = .ok (.iaload, 1) := by decide +kernel
theorem dA_mostFrom_19 : decode prog_1_method_24_code 19 = .ok (.iload_n 1, 1) := by decide +kernel
theorem dA_mostFrom_20 : decode prog_1_method_24_code 20 = .ok (.if_icmp .ne (16), 3) := by decide +kernel
theorem dA_mostFrom_23 : decode prog_1_method_24_code 23 = .ok (.iload_n 2, 1) := by decide +kernel
theorem dA_mostFrom_24 : decode prog_1_method_24_code 24 = .ok (.aload_n 0, 1) := by decide +kernel
theorem dA_mostFrom_25 : decode prog_1_method_24_code 25 = .ok (.getfield 19, 3) := by decide +kernel
theorem dA_mostFrom_28 : decode prog_1_method_24_code 28 = .ok (.iload_n 3, 1) := by decide +kernel
theorem dA_mostFrom_29 : decode prog_1_method_24_code 29 = .ok (.invokevirtual 117, 3) := by decide +kernel
theorem dA_mostFrom_32 : decode prog_1_method_24_code 32 = .ok (.invokestatic 188, 3) := by decide +kernel
theorem dA_mostFrom_35 : decode prog_1_method_24_code 35 = .ok (.istore_n 2, 1) := by decide +kernel
theorem dA_mostFrom_36 : decode prog_1_method_24_code 36 = .ok (.iinc 3 (1), 3) := by decide +kernel
theorem dA_mostFrom_39 : decode prog_1_method_24_code 39 = .ok (.goto (-35), 3) := by decide +kernel
theorem dA_mostFrom_42 : decode prog_1_method_24_code 42 = .ok (.iload_n 2, 1) := by decide +kernel
theorem dA_mostFrom_43 : decode prog_1_method_24_code 43 = .ok (.ireturn, 1) := by decide +kernel
theorem dA_moveUpTo_0 : decode prog_1_method_25_code 0 = .ok (.aload_n 0, 1) := by decide +kernel
theorem dA_moveUpTo_1 : decode prog_1_method_25_code 1 = .ok (.getfield 43, 3) := by decide +kernel
theorem dA_moveUpTo_4 : decode prog_1_method_25_code 4 = .ok (.aload_n 0, 1) := by decide +kernel
theorem dA_moveUpTo_5 : decode prog_1_method_25_code 5 = .ok (.getfield 12, 3) := by decide +kernel
theorem dA_moveUpTo_8 : decode prog_1_method_25_code 8 = .ok (.getfield 68, 3) := by decide +kernel
theorem dA_moveUpTo_11 : decode prog_1_method_25_code 11 = .ok (.iload_n 1, 1) := by decide +kernel
theorem dA_moveUpTo_12 : decode prog_1_method_25_code 12 = .ok (.invokevirtual 150, 3) := by decide +kernel
theorem dA_moveUpTo_15 : decode prog_1_method_25_code 15 = .ok (.ifCond .ne (5), 3) := by decide +kernel
theorem dA_moveUpTo_18 : decode prog_1_method_25_code 18 = .ok (.iconst 0, 1) := by decide +kernel
theorem dA_moveUpTo_19 : decode prog_1_method_25_code 19 = .ok (.ireturn, 1) := by decide +kernel
theorem dA_moveUpTo_20 : decode prog_1_method_25_code 20 = .ok (.aload_n 0, 1) := by decide +kernel
theorem dA_moveUpTo_21 : decode prog_1_method_25_code 21 = .ok (.getfield 23, 3) := by decide +kernel
theorem dA_moveUpTo_24 : decode prog_1_method_25_code 24 = .ok (.aload_n 0, 1) := by decide +kernel
theorem dA_moveUpTo_25 : decode prog_1_method_25_code 25 = .ok (.getfield 19, 3) := by decide +kernel
theorem dA_moveUpTo_28 : decode prog_1_method_25_code 28 = .ok (.invokevirtual 193, 3) := by decide +kernel
theorem dA_moveUpTo_31 : decode prog_1_method_25_code 31 = .ok (.aload_n 0, 1) := by decide +kernel
theorem dA_moveUpTo_32 : decode prog_1_method_25_code 32 = .ok (.getfield 50, 3) := by decide +kernel
theorem dA_moveUpTo_35 : decode prog_1_method_25_code 35 = .ok (.aload_n 0, 1) := by decide +kernel
theorem dA_moveUpTo_36 : decode prog_1_method_25_code 36 = .ok (.getfield 12, 3) := by decide +kernel
theorem dA_moveUpTo_39 : decode prog_1_method_25_code 39 = .ok (.aload_n 0, 1) := by decide +kernel
theorem dA_moveUpTo_40 : decode prog_1_method_25_code 40 = .ok (.getfield 23, 3) := by decide +kernel
theorem dA_moveUpTo_43 : decode prog_1_method_25_code 43 = .ok (.aload_n 0, 1) := by decide +kernel
theorem dA_moveUpTo_44 : decode prog_1_method_25_code 44 = .ok (.getfield 43, 3) := by decide +kernel
theorem dA_moveUpTo_47 : decode prog_1_method_25_code 47 = .ok (.getfield 196, 3) := by decide +kernel
theorem dA_moveUpTo_50 : decode prog_1_method_25_code 50 = .ok (.invokevirtual 199, 3) := by decide +kernel
theorem dA_moveUpTo_53 : decode prog_1_method_25_code 53 = .ok (.ifCond .ne (5), 3) := by decide +kernel
theorem dA_moveUpTo_56 : decode prog_1_method_25_code 56 = .ok (.iconst 0, 1) := by decide +kernel
theorem dA_moveUpTo_57 : decode prog_1_method_25_code 57 = .ok (.ireturn, 1) := by decide +kernel
theorem dA_moveUpTo_58 : decode prog_1_method_25_code 58 = .ok (.aload_n 0, 1) := by decide +kernel
theorem dA_moveUpTo_59 : decode prog_1_method_25_code 59 = .ok (.getfield 19, 3) := by decide +kernel
theorem dA_moveUpTo_62 : decode prog_1_method_25_code 62 = .ok (.aload_n 0, 1) := by decide +kernel
theorem dA_moveUpTo_63 : decode prog_1_method_25_code 63 = .ok (.getfield 23, 3) := by decide +kernel
theorem dA_moveUpTo_66 : decode prog_1_method_25_code 66 = .ok (.invokevirtual 193, 3) := by decide +kernel
theorem dA_moveUpTo_69 : decode prog_1_method_25_code 69 = .ok (.aload_n 0, 1) := by decide +kernel
theorem dA_moveUpTo_70 : decode prog_1_method_25_code 70 = .ok (.getfield 43, 3) := by decide +kernel
theorem dA_moveUpTo_73 : decode prog_1_method_25_code 73 = .ok (.getfield 196, 3) := by decide +kernel
theorem dA_moveUpTo_76 : decode prog_1_method_25_code 76 = .ok (.iconst 0, 1) := by decide +kernel
theorem dA_moveUpTo_77 : decode prog_1_method_25_code 77 = .ok (.aload_n 0, 1) := by decide +kernel
theorem dA_moveUpTo_78 : decode prog_1_method_25_code 78 = .ok (.getfield 61, 3) := by decide +kernel
theorem dA_moveUpTo_81 : decode prog_1_method_25_code 81 = .ok (.iconst 0, 1) := by decide +kernel
theorem dA_moveUpTo_82 : decode prog_1_method_25_code 82 = .ok (.aload_n 0, 1) := by decide +kernel
theorem dA_moveUpTo_83 : decode prog_1_method_25_code 83 = .ok (.getfield 12, 3) := by decide +kernel
theorem dA_moveUpTo_86 : decode prog_1_method_25_code 86 = .ok (.getfield 68, 3) := by decide +kernel
theorem dA_moveUpTo_89 : decode prog_1_method_25_code 89 = .ok (.iconst 1, 1) := by decide +kernel
theorem dA_moveUpTo_90 : decode prog_1_method_25_code 90 = .ok (.iadd, 1) := by decide +kernel
theorem dA_moveUpTo_91 : decode prog_1_method_25_code 91 = .ok (.invokestatic 203, 3) := by decide +kernel
theorem dA_moveUpTo_94 : decode prog_1_method_25_code 94 = .ok (.aload_n 0, 1) := by decide +kernel
theorem dA_moveUpTo_95 : decode prog_1_method_25_code 95 = .ok (.getfield 57, 3) := by decide +kernel
theorem dA_moveUpTo_98 : decode prog_1_method_25_code 98 = .ok (.aload_n 0, 1) := by decide +kernel
theorem dA_moveUpTo_99 : decode prog_1_method_25_code 99 = .ok (.getfield 19, 3) := by decide +kernel
theorem dA_moveUpTo_102 : decode prog_1_method_25_code 102 = .ok (.invokevirtual 79, 3) := by decide +kernel
theorem dA_moveUpTo_105 : decode prog_1_method_25_code 105 = .ok (.iconst 1, 1) := by decide +kernel
theorem dA_moveUpTo_106 : decode prog_1_method_25_code 106 = .ok (.ireturn, 1) := by decide +kernel
theorem dB_length_0 : decode prog_2_method_2_code 0 = .ok (.aload_n 0, 1) := by decide +kernel
theorem dB_length_1 : decode prog_2_method_2_code 1 = .ok (.getfield 9, 3) := by decide +kernel
theorem dB_length_4 : decode prog_2_method_2_code 4 = .ok (.iload_n 1, 1) := by decide +kernel
theorem dB_length_5 : decode prog_2_method_2_code 5 = .ok (.iaload, 1) := by decide +kernel
theorem dB_length_6 : decode prog_2_method_2_code 6 = .ok (.ireturn, 1) := by decide +kernel
theorem dB_read_0 : decode prog_2_method_3_code 0 = .ok (.aload_n 0, 1) := by decide +kernel
theorem dB_read_1 : decode prog_2_method_3_code 1 = .ok (.getfield 15, 3) := by decide +kernel
theorem dB_read_4 : decode prog_2_method_3_code 4 = .ok (.iload_n 1, 1) := by decide +kernel
theorem dB_read_5 : decode prog_2_method_3_code 5 = .ok (.laload, 1) := by decide +kernel
theorem dB_read_6 : decode prog_2_method_3_code 6 = .ok (.iconst 2, 1) := by decide +kernel
theorem dB_read_7 : decode prog_2_method_3_code 7 = .ok (.iload_n 2, 1) := by decide +kernel
theorem dB_read_8 : decode prog_2_method_3_code 8 = .ok (.imul, 1) := by decide +kernel
theorem dB_read_9 : decode prog_2_method_3_code 9 = .ok (.lushr, 1) := by decide +kernel
theorem dB_read_10 : decode prog_2_method_3_code 10 = .ok (.l2i, 1) := by decide +kernel
theorem dB_read_11 : decode prog_2_method_3_code 11 = .ok (.iconst 3, 1) := by decide +kernel
theorem dB_read_12 : decode prog_2_method_3_code 12 = .ok (.iand, 1) := by decide +kernel
theorem dB_read_13 : decode prog_2_method_3_code 13 = .ok (.ireturn, 1) := by decide +kernel
theorem dB_write_0 : decode prog_2_method_4_code 0 = .ok (.aload_n 0, 1) := by decide +kernel
theorem dB_write_1 : decode prog_2_method_4_code 1 = .ok (.getfield 15, 3) := by decide +kernel
theorem dB_write_4 : decode prog_2_method_4_code 4 = .ok (.iload_n 1, 1) := by decide +kernel
theorem dB_write_5 : decode prog_2_method_4_code 5 = .ok (.laload, 1) := by decide +kernel
theorem dB_write_6 : decode prog_2_method_4_code 6 = .ok (.ldc2_w 19, 3) := by decide +kernel
theorem dB_write_9 : decode prog_2_method_4_code 9 = .ok (.iconst 2, 1) := by decide +kernel
theorem dB_write_10 : decode prog_2_method_4_code 10 = .ok (.iload_n 2, 1) := by decide +kernel
theorem dB_write_11 : decode prog_2_method_4_code 11 = .ok (.imul, 1) := by decide +kernel
theorem dB_write_12 : decode prog_2_method_4_code 12 = .ok (.lshl, 1) := by decide +kernel
theorem dB_write_13 : decode prog_2_method_4_code 13 = .ok (.ldc2_w 21, 3) := by decide +kernel
theorem dB_write_16 : decode prog_2_method_4_code 16 = .ok (.lxor, 1) := by decide +kernel
theorem dB_write_17 : decode prog_2_method_4_code 17 = .ok (.land, 1) := by decide +kernel
theorem dB_write_18 : decode prog_2_method_4_code 18 = .ok (.lstore 4, 2) := by decide +kernel
theorem dB_write_20 : decode prog_2_method_4_code 20 = .ok (.aload_n 0, 1) := by decide +kernel
theorem dB_write_21 : decode prog_2_method_4_code 21 = .ok (.getfield 15, 3) := by decide +kernel
theorem dB_write_24 : decode prog_2_method_4_code 24 = .ok (.iload_n 1, 1) := by decide +kernel
theorem dB_write_25 : decode prog_2_method_4_code 25 = .ok (.lload 4, 2) := by decide +kernel
theorem dB_write_27 : decode prog_2_method_4_code 27 = .ok (.iload_n 3, 1) := by decide +kernel
theorem dB_write_28 : decode prog_2_method_4_code 28 = .ok (.i2l, 1) := by decide +kernel
theorem dB_write_29 : decode prog_2_method_4_code 29 = .ok (.iconst 2, 1) := by decide +kernel
theorem dB_write_30 : decode prog_2_method_4_code 30 = .ok (.iload_n 2, 1) := by decide +kernel
theorem dB_write_31 : decode prog_2_method_4_code 31 = .ok (.imul, 1) := by decide +kernel
theorem dB_write_32 : decode prog_2_method_4_code 32 = .ok (.lshl, 1) := by decide +kernel
theorem dB_write_33 : decode prog_2_method_4_code 33 = .ok (.lor, 1) := by decide +kernel
theorem dB_write_34 : decode prog_2_method_4_code 34 = .ok (.lastore, 1) := by decide +kernel
theorem dB_write_35 : decode prog_2_method_4_code 35 = .ok (.return_, 1) := by decide +kernel
theorem dB_fill_0 : decode prog_2_method_5_code 0 = .ok (.aload_n 0, 1) := by decide +kernel
theorem dB_fill_1 : decode prog_2_method_5_code 1 = .ok (.getfield 9, 3) := by decide +kernel
theorem dB_fill_4 : decode prog_2_method_5_code 4 = .ok (.iload_n 1, 1) := by decide +kernel
theorem dB_fill_5 : decode prog_2_method_5_code 5 = .ok (.iconst 0, 1) := by decide +kernel
theorem dB_fill_6 : decode prog_2_method_5_code 6 = .ok (.iastore, 1) := by decide +kernel
theorem dB_fill_7 : decode prog_2_method_5_code 7 = .ok (.iconst 0, 1) := by decide +kernel
theorem dB_fill_8 : decode prog_2_method_5_code 8 = .ok (.istore_n 3, 1) := by decide +kernel
theorem dB_fill_9 : decode prog_2_method_5_code 9 = .ok (.iload_n 3, 1) := by decide +kernel
theorem dB_fill_10 : decode prog_2_method_5_code 10 = .ok (.iload_n 2, 1) := by decide +kernel
theorem dB_fill_11 : decode prog_2_method_5_code 11 = .ok (.if_icmp .ge (15), 3) := by decide +kernel
theorem dB_fill_14 : decode prog_2_method_5_code 14 = .ok (.aload_n 0, 1) := by decide +kernel
theorem dB_fill_15 : decode prog_2_method_5_code 15 = .ok (.iload_n 1, 1) := by decide +kernel
theorem dB_fill_16 : decode prog_2_method_5_code 16 = .ok (.iconst 2, 1) := by decide +kernel
theorem dB_fill_17 : decode prog_2_method_5_code 17 = .ok (.invokevirtual 23, 3) := by decide +kernel
theorem dB_fill_20 : decode prog_2_method_5_code 20 = .ok (.iinc 3 (1), 3) := by decide +kernel
theorem dB_fill_23 : decode prog_2_method_5_code 23 = .ok (.goto (-14), 3) := by decide +kernel
theorem dB_fill_26 : decode prog_2_method_5_code 26 = .ok (.return_, 1) := by decide +kernel
theorem dB_takeAtSink_0 : decode prog_2_method_6_code 0 = .ok (.aload_n 0, 1) := by decide +kernel
theorem dB_takeAtSink_1 : decode prog_2_method_6_code 1 = .ok (.iload_n 1, 1) := by decide +kernel
theorem dB_takeAtSink_2 : decode prog_2_method_6_code 2 = .ok (.iconst 0, 1) := by decide +kernel
theorem dB_takeAtSink_3 : decode prog_2_method_6_code 3 = .ok (.invokevirtual 27, 3) := by decide +kernel
theorem dB_takeAtSink_6 : decode prog_2_method_6_code 6 = .ok (.istore_n 2, 1) := by decide +kernel
theorem dB_takeAtSink_7 : decode prog_2_method_6_code 7 = .ok (.aload_n 0, 1) := by decide +kernel
theorem dB_takeAtSink_8 : decode prog_2_method_6_code 8 = .ok (.getfield 15, 3) := by decide +kernel
theorem dB_takeAtSink_11 : decode prog_2_method_6_code 11 = .ok (.iload_n 1, 1) := by decide +kernel
theorem dB_takeAtSink_12 : decode prog_2_method_6_code 12 = .ok (.dup2, 1) := by decide +kernel
theorem dB_takeAtSink_13 : decode prog_2_method_6_code 13 = .ok (.laload, 1) := by decide +kernel
theorem dB_takeAtSink_14 : decode prog_2_method_6_code 14 = .ok (.iconst 2, 1) := by decide +kernel
theorem dB_takeAtSink_15 : decode prog_2_method_6_code 15 = .ok (.lushr, 1) := by decide +kernel
theorem dB_takeAtSink_16 : decode prog_2_method_6_code 16 = .ok (.lastore, 1) := by decide +kernel
theorem dB_takeAtSink_17 : decode prog_2_method_6_code 17 = .ok (.aload_n 0, 1) := by decide +kernel
theorem dB_takeAtSink_18 : decode prog_2_method_6_code 18 = .ok (.getfield 9, 3) := by decide +kernel
theorem dB_takeAtSink_21 : decode prog_2_method_6_code 21 = .ok (.iload_n 1, 1) := by decide +kernel
theorem dB_takeAtSink_22 : decode prog_2_method_6_code 22 = .ok (.dup2, 1) := by decide +kernel
theorem dB_takeAtSink_23 : decode prog_2_method_6_code 23 = .ok (.iaload, 1) := by decide +kernel
theorem dB_takeAtSink_24 : decode prog_2_method_6_code 24 = .ok (.iconst 1, 1) := by decide +kernel
theorem dB_takeAtSink_25 : decode prog_2_method_6_code 25 = .ok (.isub, 1) := by decide +kernel
theorem dB_takeAtSink_26 : decode prog_2_method_6_code 26 = .ok (.iastore, 1) := by decide +kernel
theorem dB_takeAtSink_27 : decode prog_2_method_6_code 27 = .ok (.iload_n 2, 1) := by decide +kernel
theorem dB_takeAtSink_28 : decode prog_2_method_6_code 28 = .ok (.ireturn, 1) := by decide +kernel
theorem dB_putAtSink_0 : decode prog_2_method_7_code 0 = .ok (.aload_n 0, 1) := by decide +kernel
theorem dB_putAtSink_1 : decode prog_2_method_7_code 1 = .ok (.getfield 15, 3) := by decide +kernel
theorem dB_putAtSink_4 : decode prog_2_method_7_code 4 = .ok (.iload_n 1, 1) := by decide +kernel
theorem dB_putAtSink_5 : decode prog_2_method_7_code 5 = .ok (.aload_n 0, 1) := by decide +kernel
theorem dB_putAtSink_6 : decode prog_2_method_7_code 6 = .ok (.getfield 15, 3) := by decide +kernel
theorem dB_putAtSink_9 : decode prog_2_method_7_code 9 = .ok (.iload_n 1, 1) := by decide +kernel
theorem dB_putAtSink_10 : decode prog_2_method_7_code 10 = .ok (.laload, 1) := by decide +kernel
theorem dB_putAtSink_11 : decode prog_2_method_7_code 11 = .ok (.iconst 2, 1) := by decide +kernel
theorem dB_putAtSink_12 : decode prog_2_method_7_code 12 = .ok (.lshl, 1) := by decide +kernel
theorem dB_putAtSink_13 : decode prog_2_method_7_code 13 = .ok (.iload_n 2, 1) := by decide +kernel
theorem dB_putAtSink_14 : decode prog_2_method_7_code 14 = .ok (.i2l, 1) := by decide +kernel
theorem dB_putAtSink_15 : decode prog_2_method_7_code 15 = .ok (.lor, 1) := by decide +kernel
theorem dB_putAtSink_16 : decode prog_2_method_7_code 16 = .ok (.lastore, 1) := by decide +kernel
theorem dB_putAtSink_17 : decode prog_2_method_7_code 17 = .ok (.aload_n 0, 1) := by decide +kernel
theorem dB_putAtSink_18 : decode prog_2_method_7_code 18 = .ok (.getfield 9, 3) := by decide +kernel
theorem dB_putAtSink_21 : decode prog_2_method_7_code 21 = .ok (.iload_n 1, 1) := by decide +kernel
theorem dB_putAtSink_22 : decode prog_2_method_7_code 22 = .ok (.dup2, 1) := by decide +kernel
theorem dB_putAtSink_23 : decode prog_2_method_7_code 23 = .ok (.iaload, 1) := by decide +kernel
theorem dB_putAtSink_24 : decode prog_2_method_7_code 24 = .ok (.iconst 1, 1) := by decide +kernel
theorem dB_putAtSink_25 : decode prog_2_method_7_code 25 = .ok (.iadd, 1) := by decide +kernel
theorem dB_putAtSink_26 : decode prog_2_method_7_code 26 = .ok (.iastore, 1) := by decide +kernel
theorem dB_putAtSink_27 : decode prog_2_method_7_code 27 = .ok (.return_, 1) := by decide +kernel
theorem dB_takeAtSource_0 : decode prog_2_method_8_code 0 = .ok (.aload_n 0, 1) := by decide +kernel
theorem dB_takeAtSource_1 : decode prog_2_method_8_code 1 = .ok (.getfield 9, 3) := by decide +kernel
theorem dB_takeAtSource_4 : decode prog_2_method_8_code 4 = .ok (.iload_n 1, 1) := by decide +kernel
theorem dB_takeAtSource_5 : decode prog_2_method_8_code 5 = .ok (.dup2, 1) := by decide +kernel
theorem dB_takeAtSource_6 : decode prog_2_method_8_code 6 = .ok (.iaload, 1) := by decide +kernel
theorem dB_takeAtSource_7 : decode prog_2_method_8_code 7 = .ok (.iconst 1, 1) := by decide +kernel
theorem dB_takeAtSource_8 : decode prog_2_method_8_code 8 = .ok (.isub, 1) := by decide +kernel
theorem dB_takeAtSource_9 : decode prog_2_method_8_code 9 = .ok (.iastore, 1) := by decide +kernel
theorem dB_takeAtSource_10 : decode prog_2_method_8_code 10 = .ok (.aload_n 0, 1) := by decide +kernel
theorem dB_takeAtSource_11 : decode prog_2_method_8_code 11 = .ok (.iload_n 1, 1) := by decide +kernel
theorem dB_takeAtSource_12 : decode prog_2_method_8_code 12 = .ok (.aload_n 0, 1) := by decide +kernel
theorem dB_takeAtSource_13 : decode prog_2_method_8_code 13 = .ok (.getfield 9, 3) := by decide +kernel
theorem dB_takeAtSource_16 : decode prog_2_method_8_code 16 = .ok (.iload_n 1, 1) := by decide +kernel
theorem dB_takeAtSource_17 : decode prog_2_method_8_code 17 = .ok (.iaload, 1) := by decide +kernel
theorem dB_takeAtSource_18 : decode prog_2_method_8_code 18 = .ok (.invokevirtual 27, 3) := by decide +kernel
theorem dB_takeAtSource_21 : decode prog_2_method_8_code 21 = .ok (.ireturn, 1) := by decide +kernel
theorem dB_putAtSource_0 : decode prog_2_method_9_code 0 = .ok (.aload_n 0, 1) := by decide +kernel
theorem dB_putAtSource_1 : decode prog_2_method_9_code 1 = .ok (.iload_n 1, 1) := by decide +kernel
theorem dB_putAtSource_2 : decode prog_2_method_9_code 2 = .ok (.aload_n 0, 1) := by decide +kernel
theorem dB_putAtSource_3 : decode prog_2_method_9_code 3 = .ok (.getfield 9, 3) := by decide +kernel
theorem dB_putAtSource_6 : decode prog_2_method_9_code 6 = .ok (.iload_n 1, 1) := by decide +kernel
theorem dB_putAtSource_7 : decode prog_2_method_9_code 7 = .ok (.iaload, 1) := by decide +kernel
theorem dB_putAtSource_8 : decode prog_2_method_9_code 8 = .ok (.iload_n 2, 1) := by decide +kernel
theorem dB_putAtSource_9 : decode prog_2_method_9_code 9 = .ok (.invokevirtual 31, 3) := by decide +kernel
theorem dB_putAtSource_12 : decode prog_2_method_9_code 12 = .ok (.aload_n 0, 1) := by decide +kernel
theorem dB_putAtSource_13 : decode prog_2_method_9_code 13 = .ok (.getfield 9, 3) := by decide +kernel
theorem dB_putAtSource_16 : decode prog_2_method_9_code 16 = .ok (.iload_n 1, 1) := by decide +kernel
theorem dB_putAtSource_17 : decode prog_2_method_9_code 17 = .ok (.dup2, 1) := by decide +kernel
theorem dB_putAtSource_18 : decode prog_2_method_9_code 18 = .ok (.iaload, 1) := by decide +kernel
theorem dB_putAtSource_19 : decode prog_2_method_9_code 19 = .ok (.iconst 1, 1) := by decide +kernel
theorem dB_putAtSource_20 : decode prog_2_method_9_code 20 = .ok (.iadd, 1) := by decide +kernel
theorem dB_putAtSource_21 : decode prog_2_method_9_code 21 = .ok (.iastore, 1) := by decide +kernel
theorem dB_putAtSource_22 : decode prog_2_method_9_code 22 = .ok (.return_, 1) := by decide +kernel
theorem dB_copy_0 : decode prog_2_method_10_code 0 = .ok (.aload_n 1, 1) := by decide +kernel
theorem dB_copy_1 : decode prog_2_method_10_code 1 = .ok (.getfield 9, 3) := by decide +kernel
theorem dB_copy_4 : decode prog_2_method_10_code 4 = .ok (.iconst 0, 1) := by decide +kernel
theorem dB_copy_5 : decode prog_2_method_10_code 5 = .ok (.aload_n 0, 1) := by decide +kernel
theorem dB_copy_6 : decode prog_2_method_10_code 6 = .ok (.getfield 9, 3) := by decide +kernel
theorem dB_copy_9 : decode prog_2_method_10_code 9 = .ok (.iconst 0, 1) := by decide +kernel
theorem dB_copy_10 : decode prog_2_method_10_code 10 = .ok (.bipush (27), 2) := by decide +kernel
theorem dB_copy_12 : decode prog_2_method_10_code 12 = .ok (.invokestatic 35, 3) := by decide +kernel
theorem dB_copy_15 : decode prog_2_method_10_code 15 = .ok (.aload_n 1, 1) := by decide +kernel
theorem dB_copy_16 : decode prog_2_method_10_code 16 = .ok (.getfield 15, 3) := by decide +kernel
theorem dB_copy_19 : decode prog_2_method_10_code 19 = .ok (.iconst 0, 1) := by decide +kernel
theorem dB_copy_20 : decode prog_2_method_10_code 20 = .ok (.aload_n 0, 1) := by decide +kernel
theorem dB_copy_21 : decode prog_2_method_10_code 21 = .ok (.getfield 15, 3) := by decide +kernel
theorem dB_copy_24 : decode prog_2_method_10_code 24 = .ok (.iconst 0, 1) := by decide +kernel
theorem dB_copy_25 : decode prog_2_method_10_code 25 = .ok (.bipush (27), 2) := by decide +kernel
theorem dB_copy_27 : decode prog_2_method_10_code 27 = .ok (.invokestatic 35, 3) := by decide +kernel
theorem dB_copy_30 : decode prog_2_method_10_code 30 = .ok (.return_, 1) := by decide +kernel
theorem dC_begin_0 : decode prog_3_method_2_code 0 = .ok (.aload_n 0, 1) := by decide +kernel
theorem dC_begin_1 : decode prog_3_method_2_code 1 = .ok (.getfield 12, 3) := by decide +kernel
theorem dC_begin_4 : decode prog_3_method_2_code 4 = .ok (.aload_n 1, 1) := by decide +kernel
theorem dC_begin_5 : decode prog_3_method_2_code 5 = .ok (.invokevirtual 22, 3) := by decide +kernel
theorem dC_begin_8 : decode prog_3_method_2_code 8 = .ok (.return_, 1) := by decide +kernel
theorem dC_setInputs_0 : decode prog_3_method_3_code 0 = .ok (.aload_n 0, 1) := by decide +kernel
theorem dC_setInputs_1 : decode prog_3_method_3_code 1 = .ok (.getfield 18, 3) := by decide +kernel
theorem dC_setInputs_4 : decode prog_3_method_3_code 4 = .ok (.iconst 2, 1) := by decide +kernel
theorem dC_setInputs_5 : decode prog_3_method_3_code 5 = .ok (.iload_n 1, 1) := by decide +kernel
theorem dC_setInputs_6 : decode prog_3_method_3_code 6 = .ok (.iastore, 1) := by decide +kernel
theorem dC_setInputs_7 : decode prog_3_method_3_code 7 = .ok (.aload_n 0, 1) := by decide +kernel
theorem dC_setInputs_8 : decode prog_3_method_3_code 8 = .ok (.getfield 18, 3) := by decide +kernel
theorem dC_setInputs_11 : decode prog_3_method_3_code 11 = .ok (.iconst 1, 1) := by decide +kernel
theorem dC_setInputs_12 : decode prog_3_method_3_code 12 = .ok (.iload_n 2, 1) := by decide +kernel
theorem dC_setInputs_13 : decode prog_3_method_3_code 13 = .ok (.iastore, 1) := by decide +kernel
theorem dC_setInputs_14 : decode prog_3_method_3_code 14 = .ok (.aload_n 0, 1) := by decide +kernel
theorem dC_setInputs_15 : decode prog_3_method_3_code 15 = .ok (.getfield 18, 3) := by decide +kernel
theorem dC_setInputs_18 : decode prog_3_method_3_code 18 = .ok (.iconst 0, 1) := by decide +kernel
theorem dC_setInputs_19 : decode prog_3_method_3_code 19 = .ok (.iload_n 3, 1) := by decide +kernel
theorem dC_setInputs_20 : decode prog_3_method_3_code 20 = .ok (.iastore, 1) := by decide +kernel
theorem dC_setInputs_21 : decode prog_3_method_3_code 21 = .ok (.return_, 1) := by decide +kernel
theorem dC_settle_0 : decode prog_3_method_4_code 0 = .ok (.iconst 0, 1) := by decide +kernel
theorem dC_settle_1 : decode prog_3_method_4_code 1 = .ok (.istore_n 3, 1) := by decide +kernel
theorem dC_settle_2 : decode prog_3_method_4_code 2 = .ok (.iload_n 3, 1) := by decide +kernel
theorem dC_settle_3 : decode prog_3_method_4_code 3 = .ok (.aload_n 1, 1) := by decide +kernel
theorem dC_settle_4 : decode prog_3_method_4_code 4 = .ok (.getfield 26, 3) := by decide +kernel
theorem dC_settle_7 : decode prog_3_method_4_code 7 = .ok (.if_icmp .ge (82), 3) := by decide +kernel
theorem dC_settle_10 : decode prog_3_method_4_code 10 = .ok (.aload_n 2, 1) := by decide +kernel
theorem dC_settle_11 : decode prog_3_method_4_code 11 = .ok (.getfield 32, 3) := by decide +kernel
theorem dC_settle_14 : decode prog_3_method_4_code 14 = .ok (.iload_n 3, 1) := by decide +kernel
theorem dC_settle_15 : decode prog_3_method_4_code 15 = .ok (.iaload, 1) := by decide +kernel
theorem dC_settle_16 : decode prog_3_method_4_code 16 = .ok (.istore 4, 2) := by decide +kernel
theorem dC_settle_18 : decode prog_3_method_4_code 18 = .ok (.aload_n 1, 1) := by decide +kernel
theorem dC_settle_19 : decode prog_3_method_4_code 19 = .ok (.iload 4, 2) := by decide +kernel
theorem dC_settle_21 : decode prog_3_method_4_code 21 = .ok (.invokevirtual 37, 3) := by decide +kernel
theorem dC_settle_24 : decode prog_3_method_4_code 24 = .ok (.istore 5, 2) := by decide +kernel
theorem dC_settle_26 : decode prog_3_method_4_code 26 = .ok (.aload_n 0, 1) := by decide +kernel
theorem dC_settle_27 : decode prog_3_method_4_code 27 = .ok (.aload_n 1, 1) := by decide +kernel
theorem dC_settle_28 : decode prog_3_method_4_code 28 = .ok (.iload 5, 2) := by decide +kernel
theorem dC_settle_30 : decode prog_3_method_4_code 30 = .ok (.invokevirtual 41, 3) := by decide +kernel
theorem dC_settle_33 : decode prog_3_method_4_code 33 = .ok (.istore 6, 2) := by decide +kernel
theorem dC_settle_35 : decode prog_3_method_4_code 35 = .ok (.aload_n 1, 1) := by decide +kernel
theorem dC_settle_36 : decode prog_3_method_4_code 36 = .ok (.iload 4, 2) := by decide +kernel
theorem dC_settle_38 : decode prog_3_method_4_code 38 = .ok (.invokevirtual 45, 3) := by decide +kernel
theorem dC_settle_41 : decode prog_3_method_4_code 41 = .ok (.iconst 2, 1) := by decide +kernel
theorem dC_settle_42 : decode prog_3_method_4_code 42 = .ok (.if_icmp .ne (15), 3) := by decide +kernel
theorem dC_settle_45 : decode prog_3_method_4_code 45 = .ok (.aload_n 0, 1) := by decide +kernel
theorem dC_settle_46 : decode prog_3_method_4_code 46 = .ok (.aload_n 1, 1) := by decide +kernel
theorem dC_settle_47 : decode prog_3_method_4_code 47 = .ok (.iload 5, 2) := by decide +kernel
theorem dC_settle_49 : decode prog_3_method_4_code 49 = .ok (.iconst 1, 1) := by decide +kernel
theorem dC_settle_50 : decode prog_3_method_4_code 50 = .ok (.iadd, 1) := by decide +kernel
theorem dC_settle_51 : decode prog_3_method_4_code 51 = .ok (.invokevirtual 41, 3) := by decide +kernel
theorem dC_settle_54 : decode prog_3_method_4_code 54 = .ok (.goto (4), 3) := by decide +kernel
theorem dC_settle_57 : decode prog_3_method_4_code 57 = .ok (.iconst 2, 1) := by decide +kernel
theorem dC_settle_58 : decode prog_3_method_4_code 58 = .ok (.istore 7, 2) := by decide +kernel
theorem dC_settle_60 : decode prog_3_method_4_code 60 = .ok (.aload_n 0, 1) := by decide +kernel
theorem dC_settle_61 : decode prog_3_method_4_code 61 = .ok (.getfield 18, 3) := by decide +kernel
theorem dC_settle_64 : decode prog_3_method_4_code 64 = .ok (.iconst 3, 1) := by decide +kernel
theorem dC_settle_65 : decode prog_3_method_4_code 65 = .ok (.iload 4, 2) := by decide +kernel
theorem dC_settle_67 : decode prog_3_method_4_code 67 = .ok (.iadd, 1) := by decide +kernel
theorem dC_settle_68 : decode prog_3_method_4_code 68 = .ok (.aload_n 1, 1) := by decide +kernel
theorem dC_settle_69 : decode prog_3_method_4_code 69 = .ok (.getfield 48, 3) := by decide +kernel
theorem dC_settle_72 : decode prog_3_method_4_code 72 = .ok (.iload 4, 2) := by decide +kernel
theorem dC_settle_74 : decode prog_3_method_4_code 74 = .ok (.iaload, 1) := by decide +kernel
theorem dC_settle_75 : decode prog_3_method_4_code 75 = .ok (.iload 6, 2) := by decide +kernel
theorem dC_settle_77 : decode prog_3_method_4_code 77 = .ok (.iload 7, 2) := by decide +kernel
theorem dC_settle_79 : decode prog_3_method_4_code 79 = .ok (.invokestatic 51, 3) := by decide +kernel
theorem dC_settle_82 : decode prog_3_method_4_code 82 = .ok (.iastore, 1) := by decide +kernel
theorem dC_settle_83 : decode prog_3_method_4_code 83 = .ok (.iinc 3 (1), 3) := by decide +kernel
theorem dC_settle_86 : decode prog_3_method_4_code 86 = .ok (.goto (-84), 3) := by decide +kernel
theorem dC_settle_89 : decode prog_3_method_4_code 89 = .ok (.return_, 1) := by decide +kernel
theorem dC_outputs_0 : decode prog_3_method_5_code 0 = .ok (.iconst 0, 1) := by decide +kernel
theorem dC_outputs_1 : decode prog_3_method_5_code 1 = .ok (.istore_n 2, 1) := by decide +kernel
theorem dC_outputs_2 : decode prog_3_method_5_code 2 = .ok (.bipush (26), 2) := by decide +kernel
theorem dC_outputs_4 : decode prog_3_method_5_code 4 = .ok (.istore_n 3, 1) := by decide +kernel
theorem dC_outputs_5 : decode prog_3_method_5_code 5 = .ok (.iload_n 3, 1) := by decide +kernel
theorem dC_outputs_6 : decode prog_3_method_5_code 6 = .ok (.bipush (24), 2) := by decide +kernel
theorem dC_outputs_8 : decode prog_3_method_5_code 8 = .ok (.if_icmp .lt (37), 3) := by decide +kernel
theorem dC_outputs_11 : decode prog_3_method_5_code 11 = .ok (.aload_n 1, 1) := by decide +kernel
theorem dC_outputs_12 : decode prog_3_method_5_code 12 = .ok (.getfield 57, 3) := by decide +kernel
theorem dC_outputs_15 : decode prog_3_method_5_code 15 = .ok (.iload_n 3, 1) := by decide +kernel
theorem dC_outputs_16 : decode prog_3_method_5_code 16 = .ok (.iaload, 1) := by decide +kernel
theorem dC_outputs_17 : decode prog_3_method_5_code 17 = .ok (.ifCond .ne (7), 3) := by decide +kernel
theorem dC_outputs_20 : decode prog_3_method_5_code 20 = .ok (.iconst 3, 1) := by decide +kernel
theorem dC_outputs_21 : decode prog_3_method_5_code 21 = .ok (.goto (9), 3) := by decide +kernel
theorem dC_outputs_24 : decode prog_3_method_5_code 24 = .ok (.aload_n 0, 1) := by decide +kernel
theorem dC_outputs_25 : decode prog_3_method_5_code 25 = .ok (.aload_n 1, 1) := by decide +kernel
theorem dC_outputs_26 : decode prog_3_method_5_code 26 = .ok (.iload_n 3, 1) := by decide +kernel
theorem dC_outputs_27 : decode prog_3_method_5_code 27 = .ok (.invokevirtual 41, 3) := by decide +kernel
theorem dC_outputs_30 : decode prog_3_method_5_code 30 = .ok (.istore 4, 2) := by decide +kernel
theorem dC_outputs_32 : decode prog_3_method_5_code 32 = .ok (.iconst 4, 1) := by decide +kernel
theorem dC_outputs_33 : decode prog_3_method_5_code 33 = .ok (.iload_n 2, 1) := by decide +kernel
theorem dC_outputs_34 : decode prog_3_method_5_code 34 = .ok (.imul, 1) := by decide +kernel
theorem dC_outputs_35 : decode prog_3_method_5_code 35 = .ok (.iload 4, 2) := by decide +kernel
theorem dC_outputs_37 : decode prog_3_method_5_code 37 = .ok (.iadd, 1) := by decide +kernel
theorem dC_outputs_38 : decode prog_3_method_5_code 38 = .ok (.istore_n 2, 1) := by decide +kernel
theorem dC_outputs_39 : decode prog_3_method_5_code 39 = .ok (.iinc 3 (-1), 3) := by decide +kernel
theorem dC_outputs_42 : decode prog_3_method_5_code 42 = .ok (.goto (-37), 3) := by decide +kernel
theorem dC_outputs_45 : decode prog_3_method_5_code 45 = .ok (.iload_n 2, 1) := by decide +kernel
theorem dC_outputs_46 : decode prog_3_method_5_code 46 = .ok (.ireturn, 1) := by decide +kernel
theorem dC_shift_0 : decode prog_3_method_6_code 0 = .ok (.iconst 0, 1) := by decide +kernel
theorem dC_shift_1 : decode prog_3_method_6_code 1 = .ok (.istore_n 2, 1) := by decide +kernel
theorem dC_shift_2 : decode prog_3_method_6_code 2 = .ok (.iload_n 2, 1) := by decide +kernel
theorem dC_shift_3 : decode prog_3_method_6_code 3 = .ok (.bipush (27), 2) := by decide +kernel
theorem dC_shift_5 : decode prog_3_method_6_code 5 = .ok (.if_icmp .ge (50), 3) := by decide +kernel
theorem dC_shift_8 : decode prog_3_method_6_code 8 = .ok (.aload_n 0, 1) := by decide +kernel
theorem dC_shift_9 : decode prog_3_method_6_code 9 = .ok (.getfield 12, 3) := by decide +kernel
theorem dC_shift_12 : decode prog_3_method_6_code 12 = .ok (.iload_n 2, 1) := by decide +kernel
theorem dC_shift_13 : decode prog_3_method_6_code 13 = .ok (.invokevirtual 60, 3) := by decide +kernel
theorem dC_shift_16 : decode prog_3_method_6_code 16 = .ok (.ifCond .le (33), 3) := by decide +kernel
theorem dC_shift_19 : decode prog_3_method_6_code 19 = .ok (.aload_n 0, 1) := by decide +kernel
theorem dC_shift_20 : decode prog_3_method_6_code 20 = .ok (.getfield 12, 3) := by decide +kernel
theorem dC_shift_23 : decode prog_3_method_6_code 23 = .ok (.iload_n 2, 1) := by decide +kernel
theorem dC_shift_24 : decode prog_3_method_6_code 24 = .ok (.invokevirtual 63, 3) := by decide +kernel
theorem dC_shift_27 : decode prog_3_method_6_code 27 = .ok (.pop, 1) := by decide +kernel
theorem dC_shift_28 : decode prog_3_method_6_code 28 = .ok (.aload_n 0, 1) := by decide +kernel
theorem dC_shift_29 : decode prog_3_method_6_code 29 = .ok (.getfield 12, 3) := by decide +kernel
theorem dC_shift_32 : decode prog_3_method_6_code 32 = .ok (.iload_n 2, 1) := by decide +kernel
theorem dC_shift_33 : decode prog_3_method_6_code 33 = .ok (.aload_n 0, 1) := by decide +kernel
theorem dC_shift_34 : decode prog_3_method_6_code 34 = .ok (.getfield 18, 3) := by decide +kernel
theorem dC_shift_37 : decode prog_3_method_6_code 37 = .ok (.iconst 3, 1) := by decide +kernel
theorem dC_shift_38 : decode prog_3_method_6_code 38 = .ok (.aload_n 1, 1) := by decide +kernel
theorem dC_shift_39 : decode prog_3_method_6_code 39 = .ok (.getfield 57, 3) := by decide +kernel
theorem dC_shift_42 : decode prog_3_method_6_code 42 = .ok (.iload_n 2, 1) := by decide +kernel
theorem dC_shift_43 : decode prog_3_method_6_code 43 = .ok (.iaload, 1) := by decide +kernel
theorem dC_shift_44 : decode prog_3_method_6_code 44 = .ok (.iadd, 1) := by decide +kernel
theorem dC_shift_45 : decode prog_3_method_6_code 45 = .ok (.iaload, 1) := by decide +kernel
theorem dC_shift_46 : decode prog_3_method_6_code 46 = .ok (.invokevirtual 66, 3) := by decide +kernel
theorem dC_shift_49 : decode prog_3_method_6_code 49 = .ok (.iinc 2 (1), 3) := by decide +kernel
theorem dC_shift_52 : decode prog_3_method_6_code 52 = .ok (.goto (-50), 3) := by decide +kernel
theorem dC_shift_55 : decode prog_3_method_6_code 55 = .ok (.return_, 1) := by decide +kernel
theorem dC_valueOf_0 : decode prog_3_method_7_code 0 = .ok (.aload_n 0, 1) := by decide +kernel
theorem dC_valueOf_1 : decode prog_3_method_7_code 1 = .ok (.getfield 12, 3) := by decide +kernel
theorem dC_valueOf_4 : decode prog_3_method_7_code 4 = .ok (.iload_n 2, 1) := by decide +kernel
theorem dC_valueOf_5 : decode prog_3_method_7_code 5 = .ok (.invokevirtual 60, 3) := by decide +kernel
theorem dC_valueOf_8 : decode prog_3_method_7_code 8 = .ok (.ifCond .le (15), 3) := by decide +kernel
theorem dC_valueOf_11 : decode prog_3_method_7_code 11 = .ok (.aload_n 0, 1) := by decide +kernel
theorem dC_valueOf_12 : decode prog_3_method_7_code 12 = .ok (.getfield 12, 3) := by decide +kernel
theorem dC_valueOf_15 : decode prog_3_method_7_code 15 = .ok (.iload_n 2, 1) := by decide +kernel
theorem dC_valueOf_16 : decode prog_3_method_7_code 16 = .ok (.iconst 0, 1) := by decide +kernel
theorem dC_valueOf_17 : decode prog_3_method_7_code 17 = .ok (.invokevirtual 70, 3) := by decide +kernel
theorem dC_valueOf_20 : decode prog_3_method_7_code 20 = .ok (.goto (16), 3) := by decide +kernel
theorem dC_valueOf_23 : decode prog_3_method_7_code 23 = .ok (.aload_n 0, 1) := by decide +kernel
theorem dC_valueOf_24 : decode prog_3_method_7_code 24 = .ok (.getfield 18, 3) := by decide +kernel
theorem dC_valueOf_27 : decode prog_3_method_7_code 27 = .ok (.iconst 3, 1) := by decide +kernel
theorem dC_valueOf_28 : decode prog_3_method_7_code 28 = .ok (.aload_n 1, 1) := by decide +kernel
theorem dC_valueOf_29 : decode prog_3_method_7_code 29 = .ok (.getfield 57, 3) := by decide +kernel
theorem dC_valueOf_32 : decode prog_3_method_7_code 32 = .ok (.iload_n 2, 1) := by decide +kernel
theorem dC_valueOf_33 : decode prog_3_method_7_code 33 = .ok (.iaload, 1) := by decide +kernel
theorem dC_valueOf_34 : decode prog_3_method_7_code 34 = .ok (.iadd, 1) := by decide +kernel
theorem dC_valueOf_35 : decode prog_3_method_7_code 35 = .ok (.iaload, 1) := by decide +kernel
theorem dC_valueOf_36 : decode prog_3_method_7_code 36 = .ok (.ireturn, 1) := by decide +kernel
theorem dL_set_0 : decode prog_4_method_2_code 0 = .ok (.iconst 0, 1) := by decide +kernel
theorem dL_set_1 : decode prog_4_method_2_code 1 = .ok (.istore 5, 2) := by decide +kernel
theorem dL_set_3 : decode prog_4_method_2_code 3 = .ok (.iload 5, 2) := by decide +kernel
theorem dL_set_5 : decode prog_4_method_2_code 5 = .ok (.aload_n 1, 1) := by decide +kernel
theorem dL_set_6 : decode prog_4_method_2_code 6 = .ok (.getfield 20, 3) := by decide +kernel
theorem dL_set_9 : decode prog_4_method_2_code 9 = .ok (.if_icmp .gt (40), 3) := by decide +kernel
theorem dL_set_12 : decode prog_4_method_2_code 12 = .ok (.iconst 0, 1) := by decide +kernel
theorem dL_set_13 : decode prog_4_method_2_code 13 = .ok (.istore 6, 2) := by decide +kernel
theorem dL_set_15 : decode prog_4_method_2_code 15 = .ok (.iload 6, 2) := by decide +kernel
theorem dL_set_17 : decode prog_4_method_2_code 17 = .ok (.aload_n 1, 1) := by decide +kernel
theorem dL_set_18 : decode prog_4_method_2_code 18 = .ok (.getfield 20, 3) := by decide +kernel
theorem dL_set_21 : decode prog_4_method_2_code 21 = .ok (.if_icmp .gt (22), 3) := by decide +kernel
theorem dL_set_24 : decode prog_4_method_2_code 24 = .ok (.aload_n 0, 1) := by decide +kernel
theorem dL_set_25 : decode prog_4_method_2_code 25 = .ok (.getfield 17, 3) := by decide +kernel
theorem dL_set_28 : decode prog_4_method_2_code 28 = .ok (.iload 5, 2) := by decide +kernel
theorem dL_set_30 : decode prog_4_method_2_code 30 = .ok (.aaload, 1) := by decide +kernel
theorem dL_set_31 : decode prog_4_method_2_code 31 = .ok (.iload 6, 2) := by decide +kernel
theorem dL_set_33 : decode prog_4_method_2_code 33 = .ok (.sipush (1000), 3) := by decide +kernel
theorem dL_set_36 : decode prog_4_method_2_code 36 = .ok (.iastore, 1) := by decide +kernel
theorem dL_set_37 : decode prog_4_method_2_code 37 = .ok (.iinc 6 (1), 3) := by decide +kernel
theorem dL_set_40 : decode prog_4_method_2_code 40 = .ok (.goto (-25), 3) := by decide +kernel
theorem dL_set_43 : decode prog_4_method_2_code 43 = .ok (.iinc 5 (1), 3) := by decide +kernel
theorem dL_set_46 : decode prog_4_method_2_code 46 = .ok (.goto (-43), 3) := by decide +kernel
theorem dL_set_49 : decode prog_4_method_2_code 49 = .ok (.iconst 0, 1) := by decide +kernel
theorem dL_set_50 : decode prog_4_method_2_code 50 = .ok (.istore 5, 2) := by decide +kernel
theorem dL_set_52 : decode prog_4_method_2_code 52 = .ok (.iload 5, 2) := by decide +kernel
theorem dL_set_54 : decode prog_4_method_2_code 54 = .ok (.bipush (27), 2) := by decide +kernel
theorem dL_set_56 : decode prog_4_method_2_code 56 = .ok (.if_icmp .ge (41), 3) := by decide +kernel
theorem dL_set_59 : decode prog_4_method_2_code 59 = .ok (.aload_n 1, 1) := by decide +kernel
theorem dL_set_60 : decode prog_4_method_2_code 60 = .ok (.getfield 26, 3) := by decide +kernel
theorem dL_set_63 : decode prog_4_method_2_code 63 = .ok (.iload 5, 2) := by decide +kernel
theorem dL_set_65 : decode prog_4_method_2_code 65 = .ok (.iaload, 1) := by decide +kernel
theorem dL_set_66 : decode prog_4_method_2_code 66 = .ok (.ifCond .eq (25), 3) := by decide +kernel
theorem dL_set_69 : decode prog_4_method_2_code 69 = .ok (.aload_n 0, 1) := by decide +kernel
theorem dL_set_70 : decode prog_4_method_2_code 70 = .ok (.aload_n 1, 1) := by decide +kernel
theorem dL_set_71 : decode prog_4_method_2_code 71 = .ok (.iload 5, 2) := by decide +kernel
theorem dL_set_73 : decode prog_4_method_2_code 73 = .ok (.invokevirtual 29, 3) := by decide +kernel
theorem dL_set_76 : decode prog_4_method_2_code 76 = .ok (.aload_n 1, 1) := by decide +kernel
theorem dL_set_77 : decode prog_4_method_2_code 77 = .ok (.iload 5, 2) := by decide +kernel
theorem dL_set_79 : decode prog_4_method_2_code 79 = .ok (.invokevirtual 33, 3) := by decide +kernel
theorem dL_set_82 : decode prog_4_method_2_code 82 = .ok (.aload_n 2, 1) := by decide +kernel
theorem dL_set_83 : decode prog_4_method_2_code 83 = .ok (.iload 5, 2) := by decide +kernel
theorem dL_set_85 : decode prog_4_method_2_code 85 = .ok (.invokevirtual 36, 3) := by decide +kernel
theorem dL_set_88 : decode prog_4_method_2_code 88 = .ok (.invokevirtual 41, 3) := by decide +kernel
theorem dL_set_91 : decode prog_4_method_2_code 91 = .ok (.iinc 5 (1), 3) := by decide +kernel
theorem dL_set_94 : decode prog_4_method_2_code 94 = .ok (.goto (-42), 3) := by decide +kernel
theorem dL_set_97 : decode prog_4_method_2_code 97 = .ok (.iconst 1, 1) := by decide +kernel
theorem dL_set_98 : decode prog_4_method_2_code 98 = .ok (.istore 5, 2) := by decide +kernel
theorem dL_set_100 : decode prog_4_method_2_code 100 = .ok (.iload 5, 2) := by decide +kernel
theorem dL_set_102 : decode prog_4_method_2_code 102 = .ok (.aload_n 1, 1) := by decide +kernel
theorem dL_set_103 : decode prog_4_method_2_code 103 = .ok (.getfield 20, 3) := by decide +kernel
theorem dL_set_106 : decode prog_4_method_2_code 106 = .ok (.if_icmp .gt (22), 3) := by decide +kernel
theorem dL_set_109 : decode prog_4_method_2_code 109 = .ok (.aload_n 0, 1) := by decide +kernel
theorem dL_set_110 : decode prog_4_method_2_code 110 = .ok (.aload_n 1, 1) := by decide +kernel
theorem dL_set_111 : decode prog_4_method_2_code 111 = .ok (.getfield 20, 3) := by decide +kernel
theorem dL_set_114 : decode prog_4_method_2_code 114 = .ok (.aload_n 3, 1) := by decide +kernel
theorem dL_set_115 : decode prog_4_method_2_code 115 = .ok (.iload 5, 2) := by decide +kernel
theorem dL_set_117 : decode prog_4_method_2_code 117 = .ok (.iload 4, 2) := by decide +kernel
theorem dL_set_119 : decode prog_4_method_2_code 119 = .ok (.invokevirtual 45, 3) := by decide +kernel
theorem dL_set_122 : decode prog_4_method_2_code 122 = .ok (.iinc 5 (1), 3) := by decide +kernel
theorem dL_set_125 : decode prog_4_method_2_code 125 = .ok (.goto (-25), 3) := by decide +kernel
theorem dL_set_128 : decode prog_4_method_2_code 128 = .ok (.return_, 1) := by decide +kernel
theorem dL_solve_0 : decode prog_4_method_3_code 0 = .ok (.aload_n 0, 1) := by decide +kernel
theorem dL_solve_1 : decode prog_4_method_3_code 1 = .ok (.getfield 9, 3) := by decide +kernel
theorem dL_solve_4 : decode prog_4_method_3_code 4 = .ok (.iconst 0, 1) := by decide +kernel
theorem dL_solve_5 : decode prog_4_method_3_code 5 = .ok (.iconst 0, 1) := by decide +kernel
theorem dL_solve_6 : decode prog_4_method_3_code 6 = .ok (.iastore, 1) := by decide +kernel
theorem dL_solve_7 : decode prog_4_method_3_code 7 = .ok (.iconst 1, 1) := by decide +kernel
theorem dL_solve_8 : decode prog_4_method_3_code 8 = .ok (.istore_n 3, 1) := by decide +kernel
theorem dL_solve_9 : decode prog_4_method_3_code 9 = .ok (.iload_n 3, 1) := by decide +kernel
theorem dL_solve_10 : decode prog_4_method_3_code 10 = .ok (.iload_n 1, 1) := by decide +kernel
theorem dL_solve_11 : decode prog_4_method_3_code 11 = .ok (.if_icmp .gt (16), 3) := by decide +kernel
theorem dL_solve_14 : decode prog_4_method_3_code 14 = .ok (.aload_n 0, 1) := by decide +kernel
theorem dL_solve_15 : decode prog_4_method_3_code 15 = .ok (.getfield 9, 3) := by decide +kernel
theorem dL_solve_18 : decode prog_4_method_3_code 18 = .ok (.iload_n 3, 1) := by decide +kernel
theorem dL_solve_19 : decode prog_4_method_3_code 19 = .ok (.iload_n 2, 1) := by decide +kernel
theorem dL_solve_20 : decode prog_4_method_3_code 20 = .ok (.iastore, 1) := by decide +kernel
theorem dL_solve_21 : decode prog_4_method_3_code 21 = .ok (.iinc 3 (1), 3) := by decide +kernel
theorem dL_solve_24 : decode prog_4_method_3_code 24 = .ok (.goto (-15), 3) := by decide +kernel
theorem dL_solve_27 : decode prog_4_method_3_code 27 = .ok (.iconst 0, 1) := by decide +kernel
theorem dL_solve_28 : decode prog_4_method_3_code 28 = .ok (.istore_n 3, 1) := by decide +kernel
theorem dL_solve_29 : decode prog_4_method_3_code 29 = .ok (.iload_n 3, 1) := by decide +kernel
theorem dL_solve_30 : decode prog_4_method_3_code 30 = .ok (.sipush (146), 3) := by decide +kernel
theorem dL_solve_33 : decode prog_4_method_3_code 33 = .ok (.if_icmp .ge (33), 3) := by decide +kernel
theorem dL_solve_36 : decode prog_4_method_3_code 36 = .ok (.aload_n 0, 1) := by decide +kernel
theorem dL_solve_37 : decode prog_4_method_3_code 37 = .ok (.iload_n 1, 1) := by decide +kernel
theorem dL_solve_38 : decode prog_4_method_3_code 38 = .ok (.invokevirtual 49, 3) := by decide +kernel
theorem dL_solve_41 : decode prog_4_method_3_code 41 = .ok (.istore 4, 2) := by decide +kernel
theorem dL_solve_43 : decode prog_4_method_3_code 43 = .ok (.aload_n 0, 1) := by decide +kernel
theorem dL_solve_44 : decode prog_4_method_3_code 44 = .ok (.iload_n 1, 1) := by decide +kernel
theorem dL_solve_45 : decode prog_4_method_3_code 45 = .ok (.invokevirtual 53, 3) := by decide +kernel
theorem dL_solve_48 : decode prog_4_method_3_code 48 = .ok (.ifCond .ne (5), 3) := by decide +kernel
theorem dL_solve_51 : decode prog_4_method_3_code 51 = .ok (.iconst 0, 1) := by decide +kernel
theorem dL_solve_52 : decode prog_4_method_3_code 52 = .ok (.ireturn, 1) := by decide +kernel
theorem dL_solve_53 : decode prog_4_method_3_code 53 = .ok (.iload 4, 2) := by decide +kernel
theorem dL_solve_55 : decode prog_4_method_3_code 55 = .ok (.ifCond .ne (5), 3) := by decide +kernel
theorem dL_solve_58 : decode prog_4_method_3_code 58 = .ok (.iconst 1, 1) := by decide +kernel
theorem dL_solve_59 : decode prog_4_method_3_code 59 = .ok (.ireturn, 1) := by decide +kernel
theorem dL_solve_60 : decode prog_4_method_3_code 60 = .ok (.iinc 3 (1), 3) := by decide +kernel
theorem dL_solve_63 : decode prog_4_method_3_code 63 = .ok (.goto (-34), 3) := by decide +kernel
theorem dL_solve_66 : decode prog_4_method_3_code 66 = .ok (.iconst 0, 1) := by decide +kernel
theorem dL_solve_67 : decode prog_4_method_3_code 67 = .ok (.ireturn, 1) := by decide +kernel
theorem dL_limitWire_0 : decode prog_4_method_4_code 0 = .ok (.aload_n 0, 1) := by decide +kernel
theorem dL_limitWire_1 : decode prog_4_method_4_code 1 = .ok (.iload_n 1, 1) := by decide +kernel
theorem dL_limitWire_2 : decode prog_4_method_4_code 2 = .ok (.iload_n 2, 1) := by decide +kernel
theorem dL_limitWire_3 : decode prog_4_method_4_code 3 = .ok (.iload_n 3, 1) := by decide +kernel
theorem dL_limitWire_4 : decode prog_4_method_4_code 4 = .ok (.invokevirtual 56, 3) := by decide +kernel
theorem dL_limitWire_7 : decode prog_4_method_4_code 7 = .ok (.aload_n 0, 1) := by decide +kernel
theorem dL_limitWire_8 : decode prog_4_method_4_code 8 = .ok (.iload_n 2, 1) := by decide +kernel
theorem dL_limitWire_9 : decode prog_4_method_4_code 9 = .ok (.iload_n 1, 1) := by decide +kernel
theorem dL_limitWire_10 : decode prog_4_method_4_code 10 = .ok (.bipush (20), 2) := by decide +kernel
theorem dL_limitWire_12 : decode prog_4_method_4_code 12 = .ok (.iload_n 3, 1) := by decide +kernel
theorem dL_limitWire_13 : decode prog_4_method_4_code 13 = .ok (.isub, 1) := by decide +kernel
theorem dL_limitWire_14 : decode prog_4_method_4_code 14 = .ok (.invokevirtual 56, 3) := by decide +kernel
theorem dL_limitWire_17 : decode prog_4_method_4_code 17 = .ok (.return_, 1) := by decide +kernel
theorem dL_limitPaths_0 : decode prog_4_method_5_code 0 = .ok (.iconst 1, 1) := by decide +kernel
theorem dL_limitPaths_1 : decode prog_4_method_5_code 1 = .ok (.istore 5, 2) := by decide +kernel
theorem dL_limitPaths_3 : decode prog_4_method_5_code 3 = .ok (.iload 5, 2) := by decide +kernel
theorem dL_limitPaths_5 : decode prog_4_method_5_code 5 = .ok (.iload_n 1, 1) := by decide +kernel
theorem dL_limitPaths_6 : decode prog_4_method_5_code 6 = .ok (.if_icmp .gt (41), 3) := by decide +kernel
theorem dL_limitPaths_9 : decode prog_4_method_5_code 9 = .ok (.aload_n 2, 1) := by decide +kernel
theorem dL_limitPaths_10 : decode prog_4_method_5_code 10 = .ok (.getfield 59, 3) := by decide +kernel
theorem dL_limitPaths_13 : decode prog_4_method_5_code 13 = .ok (.iload_n 3, 1) := by decide +kernel
theorem dL_limitPaths_14 : decode prog_4_method_5_code 14 = .ok (.aaload, 1) := by decide +kernel
theorem dL_limitPaths_15 : decode prog_4_method_5_code 15 = .ok (.iload 5, 2) := by decide +kernel
theorem dL_limitPaths_17 : decode prog_4_method_5_code 17 = .ok (.iaload, 1) := by decide +kernel
theorem dL_limitPaths_18 : decode prog_4_method_5_code 18 = .ok (.iload 4, 2) := by decide +kernel
theorem dL_limitPaths_20 : decode prog_4_method_5_code 20 = .ok (.if_icmp .le (21), 3) := by decide +kernel
theorem dL_limitPaths_23 : decode prog_4_method_5_code 23 = .ok (.aload_n 0, 1) := by decide +kernel
theorem dL_limitPaths_24 : decode prog_4_method_5_code 24 = .ok (.iload_n 3, 1) := by decide +kernel
theorem dL_limitPaths_25 : decode prog_4_method_5_code 25 = .ok (.iload 5, 2) := by decide +kernel
theorem dL_limitPaths_27 : decode prog_4_method_5_code 27 = .ok (.aload_n 2, 1) := by decide +kernel
theorem dL_limitPaths_28 : decode prog_4_method_5_code 28 = .ok (.getfield 64, 3) := by decide +kernel
theorem dL_limitPaths_31 : decode prog_4_method_5_code 31 = .ok (.iload_n 3, 1) := by decide +kernel
theorem dL_limitPaths_32 : decode prog_4_method_5_code 32 = .ok (.aaload, 1) := by decide +kernel
theorem dL_limitPaths_33 : decode prog_4_method_5_code 33 = .ok (.iload 5, 2) := by decide +kernel
theorem dL_limitPaths_35 : decode prog_4_method_5_code 35 = .ok (.iaload, 1) := by decide +kernel
theorem dL_limitPaths_36 : decode prog_4_method_5_code 36 = .ok (.iconst 1, 1) := by decide +kernel
theorem dL_limitPaths_37 : decode prog_4_method_5_code 37 = .ok (.isub, 1) := by decide +kernel
theorem dL_limitPaths_38 : decode prog_4_method_5_code 38 = .ok (.invokevirtual 56, 3) := by decide +kernel
theorem dL_limitPaths_41 : decode prog_4_method_5_code 41 = .ok (.iinc 5 (1), 3) := by decide +kernel
theorem dL_limitPaths_44 : decode prog_4_method_5_code 44 = .ok (.goto (-41), 3) := by decide +kernel
theorem dL_limitPaths_47 : decode prog_4_method_5_code 47 = .ok (.return_, 1) := by decide +kernel
theorem dL_limit_0 : decode prog_4_method_6_code 0 = .ok (.aload_n 0, 1) := by decide +kernel
theorem dL_limit_1 : decode prog_4_method_6_code 1 = .ok (.getfield 17, 3) := by decide +kernel
theorem dL_limit_4 : decode prog_4_method_6_code 4 = .ok (.iload_n 1, 1) := by decide +kernel
theorem dL_limit_5 : decode prog_4_method_6_code 5 = .ok (.aaload, 1) := by decide +kernel
theorem dL_limit_6 : decode prog_4_method_6_code 6 = .ok (.iload_n 2, 1) := by decide +kernel
theorem dL_limit_7 : decode prog_4_method_6_code 7 = .ok (.aload_n 0, 1) := by decide +kernel
theorem dL_limit_8 : decode prog_4_method_6_code 8 = .ok (.getfield 17, 3) := by decide +kernel
theorem dL_limit_11 : decode prog_4_method_6_code 11 = .ok (.iload_n 1, 1) := by decide +kernel
theorem dL_limit_12 : decode prog_4_method_6_code 12 = .ok (.aaload, 1) := by decide +kernel
theorem dL_limit_13 : decode prog_4_method_6_code 13 = .ok (.iload_n 2, 1) := by decide +kernel
theorem dL_limit_14 : decode prog_4_method_6_code 14 = .ok (.iaload, 1) := by decide +kernel
theorem dL_limit_15 : decode prog_4_method_6_code 15 = .ok (.iload_n 3, 1) := by decide +kernel
theorem dL_limit_16 : decode prog_4_method_6_code 16 = .ok (.invokestatic 67, 3) := by decide +kernel
theorem dL_limit_19 : decode prog_4_method_6_code 19 = .ok (.iastore, 1) := by decide +kernel
theorem dL_limit_20 : decode prog_4_method_6_code 20 = .ok (.return_, 1) := by decide +kernel
theorem dL_lowerAll_0 : decode prog_4_method_7_code 0 = .ok (.iconst 0, 1) := by decide +kernel
theorem dL_lowerAll_1 : decode prog_4_method_7_code 1 = .ok (.istore_n 2, 1) := by decide +kernel
theorem dL_lowerAll_2 : decode prog_4_method_7_code 2 = .ok (.iconst 0, 1) := by decide +kernel
theorem dL_lowerAll_3 : decode prog_4_method_7_code 3 = .ok (.istore_n 3, 1) := by decide +kernel
theorem dL_lowerAll_4 : decode prog_4_method_7_code 4 = .ok (.iload_n 3, 1) := by decide +kernel
theorem dL_lowerAll_5 : decode prog_4_method_7_code 5 = .ok (.iload_n 1, 1) := by decide +kernel
theorem dL_lowerAll_6 : decode prog_4_method_7_code 6 = .ok (.if_icmp .gt (75), 3) := by decide +kernel
theorem dL_lowerAll_9 : decode prog_4_method_7_code 9 = .ok (.iconst 0, 1) := by decide +kernel
theorem dL_lowerAll_10 : decode prog_4_method_7_code 10 = .ok (.istore 4, 2) := by decide +kernel
theorem dL_lowerAll_12 : decode prog_4_method_7_code 12 = .ok (.iload 4, 2) := by decide +kernel
theorem dL_lowerAll_14 : decode prog_4_method_7_code 14 = .ok (.iload_n 1, 1) := by decide +kernel
theorem dL_lowerAll_15 : decode prog_4_method_7_code 15 = .ok (.if_icmp .gt (60), 3) := by decide +kernel
theorem dL_lowerAll_18 : decode prog_4_method_7_code 18 = .ok (.aload_n 0, 1) := by decide +kernel
theorem dL_lowerAll_19 : decode prog_4_method_7_code 19 = .ok (.getfield 9, 3) := by decide +kernel
theorem dL_lowerAll_22 : decode prog_4_method_7_code 22 = .ok (.iload_n 3, 1) := by decide +kernel
theorem dL_lowerAll_23 : decode prog_4_method_7_code 23 = .ok (.iaload, 1) := by decide +kernel
theorem dL_lowerAll_24 : decode prog_4_method_7_code 24 = .ok (.aload_n 0, 1) := by decide +kernel
theorem dL_lowerAll_25 : decode prog_4_method_7_code 25 = .ok (.getfield 9, 3) := by decide +kernel
theorem dL_lowerAll_28 : decode prog_4_method_7_code 28 = .ok (.iload 4, 2) := by decide +kernel
theorem dL_lowerAll_30 : decode prog_4_method_7_code 30 = .ok (.iaload, 1) := by decide +kernel
theorem dL_lowerAll_31 : decode prog_4_method_7_code 31 = .ok (.aload_n 0, 1) := by decide +kernel
theorem dL_lowerAll_32 : decode prog_4_method_7_code 32 = .ok (.getfield 17, 3) := by decide +kernel
theorem dL_lowerAll_35 : decode prog_4_method_7_code 35 = .ok (.iload_n 3, 1) := by decide +kernel
theorem dL_lowerAll_36 : decode prog_4_method_7_code 36 = .ok (.aaload, 1) := by decide +kernel
theorem dL_lowerAll_37 : decode prog_4_method_7_code 37 = .ok (.iload 4, 2) := by decide +kernel
theorem dL_lowerAll_39 : decode prog_4_method_7_code 39 = .ok (.iaload, 1) := by decide +kernel
theorem dL_lowerAll_40 : decode prog_4_method_7_code 40 = .ok (.iadd, 1) := by decide +kernel
theorem dL_lowerAll_41 : decode prog_4_method_7_code 41 = .ok (.if_icmp .le (28), 3) := by decide +kernel
theorem dL_lowerAll_44 : decode prog_4_method_7_code 44 = .ok (.aload_n 0, 1) := by decide +kernel
theorem dL_lowerAll_45 : decode prog_4_method_7_code 45 = .ok (.getfield 9, 3) := by decide +kernel
theorem dL_lowerAll_48 : decode prog_4_method_7_code 48 = .ok (.iload_n 3, 1) := by decide +kernel
theorem dL_lowerAll_49 : decode prog_4_method_7_code 49 = .ok (.aload_n 0, 1) := by decide +kernel
theorem dL_lowerAll_50 : decode prog_4_method_7_code 50 = .ok (.getfield 9, 3) := by decide +kernel
theorem dL_lowerAll_53 : decode prog_4_method_7_code 53 = .ok (.iload 4, 2) := by decide +kernel
theorem dL_lowerAll_55 : decode prog_4_method_7_code 55 = .ok (.iaload, 1) := by decide +kernel
theorem dL_lowerAll_56 : decode prog_4_method_7_code 56 = .ok (.aload_n 0, 1) := by decide +kernel
theorem dL_lowerAll_57 : decode prog_4_method_7_code 57 = .ok (.getfield 17, 3) := by decide +kernel
theorem dL_lowerAll_60 : decode prog_4_method_7_code 60 = .ok (.iload_n 3, 1) := by decide +kernel
theorem dL_lowerAll_61 : decode prog_4_method_7_code 61 = .ok (.aaload, 1) := by decide +kernel
theorem dL_lowerAll_62 : decode prog_4_method_7_code 62 = .ok (.iload 4, 2) := by decide +kernel
theorem dL_lowerAll_64 : decode prog_4_method_7_code 64 = .ok (.iaload, 1) := by decide +kernel
theorem dL_lowerAll_65 : decode prog_4_method_7_code 65 = .ok (.iadd, 1) := by decide +kernel
theorem dL_lowerAll_66 : decode prog_4_method_7_code 66 = .ok (.iastore, 1) := by decide +kernel
theorem dL_lowerAll_67 : decode prog_4_method_7_code 67 = .ok (.iconst 1, 1) := by decide +kernel
theorem dL_lowerAll_68 : decode prog_4_method_7_code 68 = .ok (.istore_n 2, 1) := by decide +kernel
theorem dL_lowerAll_69 : decode prog_4_method_7_code 69 = .ok (.iinc 4 (1), 3) := by decide +kernel
theorem dL_lowerAll_72 : decode prog_4_method_7_code 72 = .ok (.goto (-60), 3) := by decide +kernel
theorem dL_lowerAll_75 : decode prog_4_method_7_code 75 = .ok (.iinc 3 (1), 3) := by decide +kernel
theorem dL_lowerAll_78 : decode prog_4_method_7_code 78 = .ok (.goto (-74), 3) := by decide +kernel
theorem dL_lowerAll_81 : decode prog_4_method_7_code 81 = .ok (.iload_n 2, 1) := by decide +kernel
theorem dL_lowerAll_82 : decode prog_4_method_7_code 82 = .ok (.ireturn, 1) := by decide +kernel
theorem dL_areAllowed_0 : decode prog_4_method_8_code 0 = .ok (.iconst 1, 1) := by decide +kernel
theorem dL_areAllowed_1 : decode prog_4_method_8_code 1 = .ok (.istore_n 2, 1) := by decide +kernel
theorem dL_areAllowed_2 : decode prog_4_method_8_code 2 = .ok (.iload_n 2, 1) := by decide +kernel
theorem dL_areAllowed_3 : decode prog_4_method_8_code 3 = .ok (.iload_n 1, 1) := by decide +kernel
theorem dL_areAllowed_4 : decode prog_4_method_8_code 4 = .ok (.if_icmp .gt (22), 3) := by decide +kernel
theorem dL_areAllowed_7 : decode prog_4_method_8_code 7 = .ok (.aload_n 0, 1) := by decide +kernel
theorem dL_areAllowed_8 : decode prog_4_method_8_code 8 = .ok (.getfield 9, 3) := by decide +kernel
theorem dL_areAllowed_11 : decode prog_4_method_8_code 11 = .ok (.iload_n 2, 1) := by decide +kernel
theorem dL_areAllowed_12 : decode prog_4_method_8_code 12 = .ok (.iaload, 1) := by decide +kernel
theorem dL_areAllowed_13 : decode prog_4_method_8_code 13 = .ok (.bipush (-6), 2) := by decide +kernel
theorem dL_areAllowed_15 : decode prog_4_method_8_code 15 = .ok (.if_icmp .ge (5), 3) := by decide +kernel
theorem dL_areAllowed_18 : decode prog_4_method_8_code 18 = .ok (.iconst 0, 1) := by decide +kernel
theorem dL_areAllowed_19 : decode prog_4_method_8_code 19 = .ok (.ireturn, 1) := by decide +kernel
theorem dL_areAllowed_20 : decode prog_4_method_8_code 20 = .ok (.iinc 2 (1), 3) := by decide +kernel
theorem dL_areAllowed_23 : decode prog_4_method_8_code 23 = .ok (.goto (-21), 3) := by decide +kernel
theorem dL_areAllowed_26 : decode prog_4_method_8_code 26 = .ok (.aload_n 0, 1) := by decide +kernel
theorem dL_areAllowed_27 : decode prog_4_method_8_code 27 = .ok (.getfield 9, 3) := by decide +kernel
theorem dL_areAllowed_30 : decode prog_4_method_8_code 30 = .ok (.iconst 0, 1) := by decide +kernel
theorem dL_areAllowed_31 : decode prog_4_method_8_code 31 = .ok (.iaload, 1) := by decide +kernel
theorem dL_areAllowed_32 : decode prog_4_method_8_code 32 = .ok (.ifCond .ne (7), 3) := by decide +kernel
theorem dL_areAllowed_35 : decode prog_4_method_8_code 35 = .ok (.iconst 1, 1) := by decide +kernel
theorem dL_areAllowed_36 : decode prog_4_method_8_code 36 = .ok (.goto (4), 3) := by decide +kernel
theorem dL_areAllowed_39 : decode prog_4_method_8_code 39 = .ok (.iconst 0, 1) := by decide +kernel
theorem dL_areAllowed_40 : decode prog_4_method_8_code 40 = .ok (.ireturn, 1) := by decide +kernel
theorem dG_made_0 : decode prog_5_method_2_code 0 = .ok (.iload_n 0, 1) := by decide +kernel
theorem dG_made_1 : decode prog_5_method_2_code 1 = .ok (.tableswitch (52) 0 3 #[31, 33, 38, 45], 31) := by decide +kernel
theorem dG_made_32 : decode prog_5_method_2_code 32 = .ok (.iload_n 1, 1) := by decide +kernel
theorem dG_made_33 : decode prog_5_method_2_code 33 = .ok (.ireturn, 1) := by decide +kernel
theorem dG_made_34 : decode prog_5_method_2_code 34 = .ok (.iload_n 1, 1) := by decide +kernel
theorem dG_made_35 : decode prog_5_method_2_code 35 = .ok (.invokestatic 9, 3) := by decide +kernel
theorem dG_made_38 : decode prog_5_method_2_code 38 = .ok (.ireturn, 1) := by decide +kernel
theorem dG_made_39 : decode prog_5_method_2_code 39 = .ok (.iconst 0, 1) := by decide +kernel
theorem dG_made_40 : decode prog_5_method_2_code 40 = .ok (.iload_n 1, 1) := by decide +kernel
theorem dG_made_41 : decode prog_5_method_2_code 41 = .ok (.iload_n 2, 1) := by decide +kernel
theorem dG_made_42 : decode prog_5_method_2_code 42 = .ok (.invokestatic 15, 3) := by decide +kernel
theorem dG_made_45 : decode prog_5_method_2_code 45 = .ok (.ireturn, 1) := by decide +kernel
theorem dG_made_46 : decode prog_5_method_2_code 46 = .ok (.iconst 1, 1) := by decide +kernel
theorem dG_made_47 : decode prog_5_method_2_code 47 = .ok (.iload_n 1, 1) := by decide +kernel
theorem dG_made_48 : decode prog_5_method_2_code 48 = .ok (.iload_n 2, 1) := by decide +kernel
theorem dG_made_49 : decode prog_5_method_2_code 49 = .ok (.invokestatic 15, 3) := by decide +kernel
theorem dG_made_52 : decode prog_5_method_2_code 52 = .ok (.ireturn, 1) := by decide +kernel
theorem dG_made_53 : decode prog_5_method_2_code 53 = .ok (.iload_n 1, 1) := by decide +kernel
theorem dG_made_54 : decode prog_5_method_2_code 54 = .ok (.iconst 2, 1) := by decide +kernel
theorem dG_made_55 : decode prog_5_method_2_code 55 = .ok (.if_icmp .eq (8), 3) := by decide +kernel
theorem dG_made_58 : decode prog_5_method_2_code 58 = .ok (.iload_n 2, 1) := by decide +kernel
theorem dG_made_59 : decode prog_5_method_2_code 59 = .ok (.iconst 2, 1) := by decide +kernel
theorem dG_made_60 : decode prog_5_method_2_code 60 = .ok (.if_icmp .ne (7), 3) := by decide +kernel
theorem dG_made_63 : decode prog_5_method_2_code 63 = .ok (.iconst 2, 1) := by decide +kernel
theorem dG_made_64 : decode prog_5_method_2_code 64 = .ok (.goto (6), 3) := by decide +kernel
theorem dG_made_67 : decode prog_5_method_2_code 67 = .ok (.iload_n 1, 1) := by decide +kernel
theorem dG_made_68 : decode prog_5_method_2_code 68 = .ok (.iload_n 2, 1) := by decide +kernel
theorem dG_made_69 : decode prog_5_method_2_code 69 = .ok (.ixor, 1) := by decide +kernel
theorem dG_made_70 : decode prog_5_method_2_code 70 = .ok (.ireturn, 1) := by decide +kernel
theorem dG_needed_0 : decode prog_5_method_3_code 0 = .ok (.iload_n 2, 1) := by decide +kernel
theorem dG_needed_1 : decode prog_5_method_3_code 1 = .ok (.iconst 2, 1) := by decide +kernel
theorem dG_needed_2 : decode prog_5_method_3_code 2 = .ok (.if_icmp .ne (5), 3) := by decide +kernel
theorem dG_needed_5 : decode prog_5_method_3_code 5 = .ok (.iconst 2, 1) := by decide +kernel
theorem dG_needed_6 : decode prog_5_method_3_code 6 = .ok (.ireturn, 1) := by decide +kernel
theorem dG_needed_7 : decode prog_5_method_3_code 7 = .ok (.iload_n 0, 1) := by decide +kernel
theorem dG_needed_8 : decode prog_5_method_3_code 8 = .ok (.tableswitch (70) 0 3 #[32, 34, 39, 54], 32) := by decide +kernel
theorem dG_needed_40 : decode prog_5_method_3_code 40 = .ok (.iload_n 2, 1) := by decide +kernel
theorem dG_needed_41 : decode prog_5_method_3_code 41 = .ok (.ireturn, 1) := by decide +kernel
theorem dG_needed_42 : decode prog_5_method_3_code 42 = .ok (.iload_n 2, 1) := by decide +kernel
theorem dG_needed_43 : decode prog_5_method_3_code 43 = .ok (.invokestatic 9, 3) := by decide +kernel
theorem dG_needed_46 : decode prog_5_method_3_code 46 = .ok (.ireturn, 1) := by decide +kernel
theorem dG_needed_47 : decode prog_5_method_3_code 47 = .ok (.iload_n 2, 1) := by decide +kernel
theorem dG_needed_48 : decode prog_5_method_3_code 48 = .ok (.ifCond .ne (12), 3) := by decide +kernel
theorem dG_needed_51 : decode prog_5_method_3_code 51 = .ok (.iload_n 1, 1) := by decide +kernel
theorem dG_needed_52 : decode prog_5_method_3_code 52 = .ok (.iconst 1, 1) := by decide +kernel
theorem dG_needed_53 : decode prog_5_method_3_code 53 = .ok (.if_icmp .ne (7), 3) := by decide +kernel
theorem dG_needed_56 : decode prog_5_method_3_code 56 = .ok (.iconst 2, 1) := by decide +kernel
theorem dG_needed_57 : decode prog_5_method_3_code 57 = .ok (.goto (4), 3) := by decide +kernel
theorem dG_needed_60 : decode prog_5_method_3_code 60 = .ok (.iload_n 2, 1) := by decide +kernel
theorem dG_needed_61 : decode prog_5_method_3_code 61 = .ok (.ireturn, 1) := by decide +kernel
theorem dG_needed_62 : decode prog_5_method_3_code 62 = .ok (.iload_n 2, 1) := by decide +kernel
theorem dG_needed_63 : decode prog_5_method_3_code 63 = .ok (.iconst 1, 1) := by decide +kernel
theorem dG_needed_64 : decode prog_5_method_3_code 64 = .ok (.if_icmp .ne (12), 3) := by decide +kernel
theorem dG_needed_67 : decode prog_5_method_3_code 67 = .ok (.iload_n 1, 1) := by decide +kernel
theorem dG_needed_68 : decode prog_5_method_3_code 68 = .ok (.iconst 1, 1) := by decide +kernel
theorem dG_needed_69 : decode prog_5_method_3_code 69 = .ok (.if_icmp .ne (7), 3) := by decide +kernel
theorem dG_needed_72 : decode prog_5_method_3_code 72 = .ok (.iconst 2, 1) := by decide +kernel
theorem dG_needed_73 : decode prog_5_method_3_code 73 = .ok (.goto (4), 3) := by decide +kernel
theorem dG_needed_76 : decode prog_5_method_3_code 76 = .ok (.iload_n 2, 1) := by decide +kernel
theorem dG_needed_77 : decode prog_5_method_3_code 77 = .ok (.ireturn, 1) := by decide +kernel
theorem dG_needed_78 : decode prog_5_method_3_code 78 = .ok (.iload_n 1, 1) := by decide +kernel
theorem dG_needed_79 : decode prog_5_method_3_code 79 = .ok (.ifCond .ne (7), 3) := by decide +kernel
theorem dG_needed_82 : decode prog_5_method_3_code 82 = .ok (.iload_n 2, 1) := by decide +kernel
theorem dG_needed_83 : decode prog_5_method_3_code 83 = .ok (.goto (4), 3) := by decide +kernel
theorem dG_needed_86 : decode prog_5_method_3_code 86 = .ok (.iconst 0, 1) := by decide +kernel
theorem dG_needed_87 : decode prog_5_method_3_code 87 = .ok (.ireturn, 1) := by decide +kernel
theorem dG_opposite_0 : decode prog_5_method_4_code 0 = .ok (.iload_n 0, 1) := by decide +kernel
theorem dG_opposite_1 : decode prog_5_method_4_code 1 = .ok (.iconst 2, 1) := by decide +kernel
theorem dG_opposite_2 : decode prog_5_method_4_code 2 = .ok (.if_icmp .ne (7), 3) := by decide +kernel
theorem dG_opposite_5 : decode prog_5_method_4_code 5 = .ok (.iconst 2, 1) := by decide +kernel
theorem dG_opposite_6 : decode prog_5_method_4_code 6 = .ok (.goto (6), 3) := by decide +kernel
theorem dG_opposite_9 : decode prog_5_method_4_code 9 = .ok (.iconst 1, 1) := by decide +kernel
theorem dG_opposite_10 : decode prog_5_method_4_code 10 = .ok (.iload_n 0, 1) := by decide +kernel
theorem dG_opposite_11 : decode prog_5_method_4_code 11 = .ok (.isub, 1) := by decide +kernel
theorem dG_opposite_12 : decode prog_5_method_4_code 12 = .ok (.ireturn, 1) := by decide +kernel
theorem dG_ruled_0 : decode prog_5_method_5_code 0 = .ok (.iload_n 1, 1) := by decide +kernel
theorem dG_ruled_1 : decode prog_5_method_5_code 1 = .ok (.iload_n 0, 1) := by decide +kernel
theorem dG_ruled_2 : decode prog_5_method_5_code 2 = .ok (.if_icmp .eq (8), 3) := by decide +kernel
theorem dG_ruled_5 : decode prog_5_method_5_code 5 = .ok (.iload_n 2, 1) := by decide +kernel
theorem dG_ruled_6 : decode prog_5_method_5_code 6 = .ok (.iload_n 0, 1) := by decide +kernel
theorem dG_ruled_7 : decode prog_5_method_5_code 7 = .ok (.if_icmp .ne (5), 3) := by decide +kernel
theorem dG_ruled_10 : decode prog_5_method_5_code 10 = .ok (.iload_n 0, 1) := by decide +kernel
theorem dG_ruled_11 : decode prog_5_method_5_code 11 = .ok (.ireturn, 1) := by decide +kernel
theorem dG_ruled_12 : decode prog_5_method_5_code 12 = .ok (.iload_n 1, 1) := by decide +kernel
theorem dG_ruled_13 : decode prog_5_method_5_code 13 = .ok (.iconst 2, 1) := by decide +kernel
theorem dG_ruled_14 : decode prog_5_method_5_code 14 = .ok (.if_icmp .eq (8), 3) := by decide +kernel
theorem dG_ruled_17 : decode prog_5_method_5_code 17 = .ok (.iload_n 2, 1) := by decide +kernel
theorem dG_ruled_18 : decode prog_5_method_5_code 18 = .ok (.iconst 2, 1) := by decide +kernel
theorem dG_ruled_19 : decode prog_5_method_5_code 19 = .ok (.if_icmp .ne (7), 3) := by decide +kernel
theorem dG_ruled_22 : decode prog_5_method_5_code 22 = .ok (.iconst 2, 1) := by decide +kernel
theorem dG_ruled_23 : decode prog_5_method_5_code 23 = .ok (.goto (6), 3) := by decide +kernel
theorem dG_ruled_26 : decode prog_5_method_5_code 26 = .ok (.iconst 1, 1) := by decide +kernel
theorem dG_ruled_27 : decode prog_5_method_5_code 27 = .ok (.iload_n 0, 1) := by decide +kernel
theorem dG_ruled_28 : decode prog_5_method_5_code 28 = .ok (.isub, 1) := by decide +kernel
theorem dG_ruled_29 : decode prog_5_method_5_code 29 = .ok (.ireturn, 1) := by decide +kernel
theorem dV_follow_0 : decode prog_6_method_2_code 0 = .ok (.aload_n 3, 1) := by decide +kernel
theorem dV_follow_1 : decode prog_6_method_2_code 1 = .ok (.iconst 0, 1) := by decide +kernel
theorem dV_follow_2 : decode prog_6_method_2_code 2 = .ok (.aload_n 0, 1) := by decide +kernel
theorem dV_follow_3 : decode prog_6_method_2_code 3 = .ok (.getfield 9, 3) := by decide +kernel
theorem dV_follow_6 : decode prog_6_method_2_code 6 = .ok (.iconst 0, 1) := by decide +kernel
theorem dV_follow_7 : decode prog_6_method_2_code 7 = .ok (.aload_n 1, 1) := by decide +kernel
theorem dV_follow_8 : decode prog_6_method_2_code 8 = .ok (.getfield 15, 3) := by decide +kernel
theorem dV_follow_11 : decode prog_6_method_2_code 11 = .ok (.iconst 1, 1) := by decide +kernel
theorem dV_follow_12 : decode prog_6_method_2_code 12 = .ok (.iadd, 1) := by decide +kernel
theorem dV_follow_13 : decode prog_6_method_2_code 13 = .ok (.invokestatic 21, 3) := by decide +kernel
theorem dV_follow_16 : decode prog_6_method_2_code 16 = .ok (.iconst 0, 1) := by decide +kernel
theorem dV_follow_17 : decode prog_6_method_2_code 17 = .ok (.istore 4, 2) := by decide +kernel
theorem dV_follow_19 : decode prog_6_method_2_code 19 = .ok (.iload 4, 2) := by decide +kernel
theorem dV_follow_21 : decode prog_6_method_2_code 21 = .ok (.bipush (72), 2) := by decide +kernel
theorem dV_follow_23 : decode prog_6_method_2_code 23 = .ok (.if_icmp .gt (33), 3) := by decide +kernel
theorem dV_follow_26 : decode prog_6_method_2_code 26 = .ok (.aload_n 0, 1) := by decide +kernel
theorem dV_follow_27 : decode prog_6_method_2_code 27 = .ok (.aload_n 1, 1) := by decide +kernel
theorem dV_follow_28 : decode prog_6_method_2_code 28 = .ok (.getfield 15, 3) := by decide +kernel
theorem dV_follow_31 : decode prog_6_method_2_code 31 = .ok (.invokevirtual 27, 3) := by decide +kernel
theorem dV_follow_34 : decode prog_6_method_2_code 34 = .ok (.ifCond .eq (5), 3) := by decide +kernel
theorem dV_follow_37 : decode prog_6_method_2_code 37 = .ok (.iconst 1, 1) := by decide +kernel
theorem dV_follow_38 : decode prog_6_method_2_code 38 = .ok (.ireturn, 1) := by decide +kernel
theorem dV_follow_39 : decode prog_6_method_2_code 39 = .ok (.aload_n 0, 1) := by decide +kernel
theorem dV_follow_40 : decode prog_6_method_2_code 40 = .ok (.aload_n 1, 1) := by decide +kernel
theorem dV_follow_41 : decode prog_6_method_2_code 41 = .ok (.aload_n 2, 1) := by decide +kernel
theorem dV_follow_42 : decode prog_6_method_2_code 42 = .ok (.invokevirtual 31, 3) := by decide +kernel
theorem dV_follow_45 : decode prog_6_method_2_code 45 = .ok (.ifCond .ne (5), 3) := by decide +kernel
theorem dV_follow_48 : decode prog_6_method_2_code 48 = .ok (.iconst 0, 1) := by decide +kernel
theorem dV_follow_49 : decode prog_6_method_2_code 49 = .ok (.ireturn, 1) := by decide +kernel
theorem dV_follow_50 : decode prog_6_method_2_code 50 = .ok (.iinc 4 (1), 3) := by decide +kernel
theorem dV_follow_53 : decode prog_6_method_2_code 53 = .ok (.goto (-34), 3) := by decide +kernel
theorem dV_follow_56 : decode prog_6_method_2_code 56 = .ok (.iconst 0, 1) := by decide +kernel
theorem dV_follow_57 : decode prog_6_method_2_code 57 = .ok (.ireturn, 1) := by decide +kernel
theorem dV_isDone_0 : decode prog_6_method_3_code 0 = .ok (.iconst 1, 1) := by decide +kernel
theorem dV_isDone_1 : decode prog_6_method_3_code 1 = .ok (.istore_n 2, 1) := by decide +kernel
theorem dV_isDone_2 : decode prog_6_method_3_code 2 = .ok (.iload_n 2, 1) := by decide +kernel
theorem dV_isDone_3 : decode prog_6_method_3_code 3 = .ok (.iload_n 1, 1) := by decide +kernel
theorem dV_isDone_4 : decode prog_6_method_3_code 4 = .ok (.if_icmp .gt (20), 3) := by decide +kernel
theorem dV_isDone_7 : decode prog_6_method_3_code 7 = .ok (.aload_n 0, 1) := by decide +kernel
theorem dV_isDone_8 : decode prog_6_method_3_code 8 = .ok (.getfield 9, 3) := by decide +kernel
theorem dV_isDone_11 : decode prog_6_method_3_code 11 = .ok (.iload_n 2, 1) := by decide +kernel
theorem dV_isDone_12 : decode prog_6_method_3_code 12 = .ok (.iaload, 1) := by decide +kernel
theorem dV_isDone_13 : decode prog_6_method_3_code 13 = .ok (.ifCond .eq (5), 3) := by decide +kernel
theorem dV_isDone_16 : decode prog_6_method_3_code 16 = .ok (.iconst 0, 1) := by decide +kernel
theorem dV_isDone_17 : decode prog_6_method_3_code 17 = .ok (.ireturn, 1) := by decide +kernel
theorem dV_isDone_18 : decode prog_6_method_3_code 18 = .ok (.iinc 2 (1), 3) := by decide +kernel
theorem dV_isDone_21 : decode prog_6_method_3_code 21 = .ok (.goto (-19), 3) := by decide +kernel
theorem dV_isDone_24 : decode prog_6_method_3_code 24 = .ok (.iconst 1, 1) := by decide +kernel
theorem dV_isDone_25 : decode prog_6_method_3_code 25 = .ok (.ireturn, 1) := by decide +kernel
theorem dV_moveEach_0 : decode prog_6_method_4_code 0 = .ok (.iconst 1, 1) := by decide +kernel
theorem dV_moveEach_1 : decode prog_6_method_4_code 1 = .ok (.istore_n 3, 1) := by decide +kernel
theorem dV_moveEach_2 : decode prog_6_method_4_code 2 = .ok (.iload_n 3, 1) := by decide +kernel
theorem dV_moveEach_3 : decode prog_6_method_4_code 3 = .ok (.aload_n 1, 1) := by decide +kernel
theorem dV_moveEach_4 : decode prog_6_method_4_code 4 = .ok (.getfield 15, 3) := by decide +kernel
theorem dV_moveEach_7 : decode prog_6_method_4_code 7 = .ok (.if_icmp .gt (89), 3) := by decide +kernel
theorem dV_moveEach_10 : decode prog_6_method_4_code 10 = .ok (.aload_n 0, 1) := by decide +kernel
theorem dV_moveEach_11 : decode prog_6_method_4_code 11 = .ok (.getfield 9, 3) := by decide +kernel
theorem dV_moveEach_14 : decode prog_6_method_4_code 14 = .ok (.iload_n 3, 1) := by decide +kernel
theorem dV_moveEach_15 : decode prog_6_method_4_code 15 = .ok (.iaload, 1) := by decide +kernel
theorem dV_moveEach_16 : decode prog_6_method_4_code 16 = .ok (.ifCond .ge (33), 3) := by decide +kernel
theorem dV_moveEach_19 : decode prog_6_method_4_code 19 = .ok (.aload_n 0, 1) := by decide +kernel
theorem dV_moveEach_20 : decode prog_6_method_4_code 20 = .ok (.aload_n 1, 1) := by decide +kernel
theorem dV_moveEach_21 : decode prog_6_method_4_code 21 = .ok (.aload_n 2, 1) := by decide +kernel
theorem dV_moveEach_22 : decode prog_6_method_4_code 22 = .ok (.iload_n 3, 1) := by decide +kernel
theorem dV_moveEach_23 : decode prog_6_method_4_code 23 = .ok (.invokevirtual 35, 3) := by decide +kernel
theorem dV_moveEach_26 : decode prog_6_method_4_code 26 = .ok (.ifCond .eq (23), 3) := by decide +kernel
theorem dV_moveEach_29 : decode prog_6_method_4_code 29 = .ok (.aload_n 0, 1) := by decide +kernel
theorem dV_moveEach_30 : decode prog_6_method_4_code 30 = .ok (.getfield 9, 3) := by decide +kernel
theorem dV_moveEach_33 : decode prog_6_method_4_code 33 = .ok (.iload_n 3, 1) := by decide +kernel
theorem dV_moveEach_34 : decode prog_6_method_4_code 34 = .ok (.dup2, 1) := by decide +kernel
theorem dV_moveEach_35 : decode prog_6_method_4_code 35 = .ok (.iaload, 1) := by decide +kernel
theorem dV_moveEach_36 : decode prog_6_method_4_code 36 = .ok (.iconst 1, 1) := by decide +kernel
theorem dV_moveEach_37 : decode prog_6_method_4_code 37 = .ok (.iadd, 1) := by decide +kernel
theorem dV_moveEach_38 : decode prog_6_method_4_code 38 = .ok (.iastore, 1) := by decide +kernel
theorem dV_moveEach_39 : decode prog_6_method_4_code 39 = .ok (.aload_n 0, 1) := by decide +kernel
theorem dV_moveEach_40 : decode prog_6_method_4_code 40 = .ok (.aload_n 1, 1) := by decide +kernel
theorem dV_moveEach_41 : decode prog_6_method_4_code 41 = .ok (.aload_n 2, 1) := by decide +kernel
theorem dV_moveEach_42 : decode prog_6_method_4_code 42 = .ok (.iload_n 3, 1) := by decide +kernel
theorem dV_moveEach_43 : decode prog_6_method_4_code 43 = .ok (.invokevirtual 39, 3) := by decide +kernel
theorem dV_moveEach_46 : decode prog_6_method_4_code 46 = .ok (.goto (44), 3) := by decide +kernel
theorem dV_moveEach_49 : decode prog_6_method_4_code 49 = .ok (.aload_n 0, 1) := by decide +kernel
theorem dV_moveEach_50 : decode prog_6_method_4_code 50 = .ok (.getfield 9, 3) := by decide +kernel
theorem dV_moveEach_53 : decode prog_6_method_4_code 53 = .ok (.iload_n 3, 1) := by decide +kernel
theorem dV_moveEach_54 : decode prog_6_method_4_code 54 = .ok (.iaload, 1) := by decide +kernel
theorem dV_moveEach_55 : decode prog_6_method_4_code 55 = .ok (.ifCond .le (35), 3) := by decide +kernel
theorem dV_moveEach_58 : decode prog_6_method_4_code 58 = .ok (.aload_n 0, 1) := by decide +kernel
theorem dV_moveEach_59 : decode prog_6_method_4_code 59 = .ok (.aload_n 1, 1) := by decide +kernel
theorem dV_moveEach_60 : decode prog_6_method_4_code 60 = .ok (.aload_n 2, 1) := by decide +kernel
theorem dV_moveEach_61 : decode prog_6_method_4_code 61 = .ok (.iload_n 3, 1) := by decide +kernel
theorem dV_moveEach_62 : decode prog_6_method_4_code 62 = .ok (.invokevirtual 43, 3) := by decide +kernel
theorem dV_moveEach_65 : decode prog_6_method_4_code 65 = .ok (.ifCond .eq (25), 3) := by decide +kernel
theorem dV_moveEach_68 : decode prog_6_method_4_code 68 = .ok (.aload_n 0, 1) := by decide +kernel
theorem dV_moveEach_69 : decode prog_6_method_4_code 69 = .ok (.getfield 9, 3) := by decide +kernel
theorem dV_moveEach_72 : decode prog_6_method_4_code 72 = .ok (.iload_n 3, 1) := by decide +kernel
theorem dV_moveEach_73 : decode prog_6_method_4_code 73 = .ok (.dup2, 1) := by decide +kernel
theorem dV_moveEach_74 : decode prog_6_method_4_code 74 = .ok (.iaload, 1) := by decide +kernel
theorem dV_moveEach_75 : decode prog_6_method_4_code 75 = .ok (.iconst 1, 1) := by decide +kernel
theorem dV_moveEach_76 : decode prog_6_method_4_code 76 = .ok (.isub, 1) := by decide +kernel
theorem dV_moveEach_77 : decode prog_6_method_4_code 77 = .ok (.iastore, 1) := by decide +kernel
theorem dV_moveEach_78 : decode prog_6_method_4_code 78 = .ok (.aload_n 0, 1) := by decide +kernel
theorem dV_moveEach_79 : decode prog_6_method_4_code 79 = .ok (.aload_n 1, 1) := by decide +kernel
theorem dV_moveEach_80 : decode prog_6_method_4_code 80 = .ok (.aload_n 2, 1) := by decide +kernel
theorem dV_moveEach_81 : decode prog_6_method_4_code 81 = .ok (.iload_n 3, 1) := by decide +kernel
theorem dV_moveEach_82 : decode prog_6_method_4_code 82 = .ok (.invokevirtual 46, 3) := by decide +kernel
theorem dV_moveEach_85 : decode prog_6_method_4_code 85 = .ok (.ifCond .ne (5), 3) := by decide +kernel
theorem dV_moveEach_88 : decode prog_6_method_4_code 88 = .ok (.iconst 0, 1) := by decide +kernel
theorem dV_moveEach_89 : decode prog_6_method_4_code 89 = .ok (.ireturn, 1) := by decide +kernel
theorem dV_moveEach_90 : decode prog_6_method_4_code 90 = .ok (.iinc 3 (1), 3) := by decide +kernel
theorem dV_moveEach_93 : decode prog_6_method_4_code 93 = .ok (.goto (-91), 3) := by decide +kernel
theorem dV_moveEach_96 : decode prog_6_method_4_code 96 = .ok (.iconst 1, 1) := by decide +kernel
theorem dV_moveEach_97 : decode prog_6_method_4_code 97 = .ok (.ireturn, 1) := by decide +kernel
theorem dV_canForward_0 : decode prog_6_method_5_code 0 = .ok (.aload_n 1, 1) := by decide +kernel
theorem dV_canForward_1 : decode prog_6_method_5_code 1 = .ok (.iload_n 3, 1) := by decide +kernel
theorem dV_canForward_2 : decode prog_6_method_5_code 2 = .ok (.invokevirtual 49, 3) := by decide +kernel
theorem dV_canForward_5 : decode prog_6_method_5_code 5 = .ok (.istore 4, 2) := by decide +kernel
theorem dV_canForward_7 : decode prog_6_method_5_code 7 = .ok (.iload 4, 2) := by decide +kernel
theorem dV_canForward_9 : decode prog_6_method_5_code 9 = .ok (.aload_n 1, 1) := by decide +kernel
theorem dV_canForward_10 : decode prog_6_method_5_code 10 = .ok (.iload_n 3, 1) := by decide +kernel
theorem dV_canForward_11 : decode prog_6_method_5_code 11 = .ok (.invokevirtual 53, 3) := by decide +kernel
theorem dV_canForward_14 : decode prog_6_method_5_code 14 = .ok (.if_icmp .ge (20), 3) := by decide +kernel
theorem dV_canForward_17 : decode prog_6_method_5_code 17 = .ok (.aload_n 2, 1) := by decide +kernel
theorem dV_canForward_18 : decode prog_6_method_5_code 18 = .ok (.iload 4, 2) := by decide +kernel
theorem dV_canForward_20 : decode prog_6_method_5_code 20 = .ok (.invokevirtual 56, 3) := by decide +kernel
theorem dV_canForward_23 : decode prog_6_method_5_code 23 = .ok (.ifCond .ne (5), 3) := by decide +kernel
theorem dV_canForward_26 : decode prog_6_method_5_code 26 = .ok (.iconst 0, 1) := by decide +kernel
theorem dV_canForward_27 : decode prog_6_method_5_code 27 = .ok (.ireturn, 1) := by decide +kernel
theorem dV_canForward_28 : decode prog_6_method_5_code 28 = .ok (.iinc 4 (1), 3) := by decide +kernel
theorem dV_canForward_31 : decode prog_6_method_5_code 31 = .ok (.goto (-24), 3) := by decide +kernel
theorem dV_canForward_34 : decode prog_6_method_5_code 34 = .ok (.iconst 1, 1) := by decide +kernel
theorem dV_canForward_35 : decode prog_6_method_5_code 35 = .ok (.ireturn, 1) := by decide +kernel
theorem dV_canBackward_0 : decode prog_6_method_6_code 0 = .ok (.iconst 0, 1) := by decide +kernel
theorem dV_canBackward_1 : decode prog_6_method_6_code 1 = .ok (.istore 4, 2) := by decide +kernel
theorem dV_canBackward_3 : decode prog_6_method_6_code 3 = .ok (.iload 4, 2) := by decide +kernel
theorem dV_canBackward_5 : decode prog_6_method_6_code 5 = .ok (.bipush (27), 2) := by decide +kernel
theorem dV_canBackward_7 : decode prog_6_method_6_code 7 = .ok (.if_icmp .ge (31), 3) := by decide +kernel
theorem dV_canBackward_10 : decode prog_6_method_6_code 10 = .ok (.aload_n 1, 1) := by decide +kernel
theorem dV_canBackward_11 : decode prog_6_method_6_code 11 = .ok (.getfield 61, 3) := by decide +kernel
theorem dV_canBackward_14 : decode prog_6_method_6_code 14 = .ok (.iload 4, 2) := by decide +kernel
theorem dV_canBackward_16 : decode prog_6_method_6_code 16 = .ok (.iaload, 1) := by decide +kernel
theorem dV_canBackward_17 : decode prog_6_method_6_code 17 = .ok (.iload_n 3, 1) := by decide +kernel
theorem dV_canBackward_18 : decode prog_6_method_6_code 18 = .ok (.if_icmp .ne (14), 3) := by decide +kernel
theorem dV_canBackward_21 : decode prog_6_method_6_code 21 = .ok (.aload_n 2, 1) := by decide +kernel
theorem dV_canBackward_22 : decode prog_6_method_6_code 22 = .ok (.iload 4, 2) := by decide +kernel
theorem dV_canBackward_24 : decode prog_6_method_6_code 24 = .ok (.invokevirtual 56, 3) := by decide +kernel
theorem dV_canBackward_27 : decode prog_6_method_6_code 27 = .ok (.ifCond .ne (5), 3) := by decide +kernel
theorem dV_canBackward_30 : decode prog_6_method_6_code 30 = .ok (.iconst 0, 1) := by decide +kernel
theorem dV_canBackward_31 : decode prog_6_method_6_code 31 = .ok (.ireturn, 1) := by decide +kernel
theorem dV_canBackward_32 : decode prog_6_method_6_code 32 = .ok (.iinc 4 (1), 3) := by decide +kernel
theorem dV_canBackward_35 : decode prog_6_method_6_code 35 = .ok (.goto (-32), 3) := by decide +kernel
theorem dV_canBackward_38 : decode prog_6_method_6_code 38 = .ok (.iconst 1, 1) := by decide +kernel
theorem dV_canBackward_39 : decode prog_6_method_6_code 39 = .ok (.ireturn, 1) := by decide +kernel
theorem dV_forward_0 : decode prog_6_method_7_code 0 = .ok (.aload_n 1, 1) := by decide +kernel
theorem dV_forward_1 : decode prog_6_method_7_code 1 = .ok (.iload_n 3, 1) := by decide +kernel
theorem dV_forward_2 : decode prog_6_method_7_code 2 = .ok (.invokevirtual 49, 3) := by decide +kernel
theorem dV_forward_5 : decode prog_6_method_7_code 5 = .ok (.istore 4, 2) := by decide +kernel
theorem dV_forward_7 : decode prog_6_method_7_code 7 = .ok (.aload_n 2, 1) := by decide +kernel
theorem dV_forward_8 : decode prog_6_method_7_code 8 = .ok (.iload 4, 2) := by decide +kernel
theorem dV_forward_10 : decode prog_6_method_7_code 10 = .ok (.invokevirtual 64, 3) := by decide +kernel
theorem dV_forward_13 : decode prog_6_method_7_code 13 = .ok (.istore 5, 2) := by decide +kernel
theorem dV_forward_15 : decode prog_6_method_7_code 15 = .ok (.aload_n 1, 1) := by decide +kernel
theorem dV_forward_16 : decode prog_6_method_7_code 16 = .ok (.iload_n 3, 1) := by decide +kernel
theorem dV_forward_17 : decode prog_6_method_7_code 17 = .ok (.invokevirtual 67, 3) := by decide +kernel
theorem dV_forward_20 : decode prog_6_method_7_code 20 = .ok (.iconst 2, 1) := by decide +kernel
theorem dV_forward_21 : decode prog_6_method_7_code 21 = .ok (.if_icmp .ne (14), 3) := by decide +kernel
theorem dV_forward_24 : decode prog_6_method_7_code 24 = .ok (.aload_n 2, 1) := by decide +kernel
theorem dV_forward_25 : decode prog_6_method_7_code 25 = .ok (.iload 4, 2) := by decide +kernel
theorem dV_forward_27 : decode prog_6_method_7_code 27 = .ok (.iconst 1, 1) := by decide +kernel
theorem dV_forward_28 : decode prog_6_method_7_code 28 = .ok (.iadd, 1) := by decide +kernel
theorem dV_forward_29 : decode prog_6_method_7_code 29 = .ok (.invokevirtual 64, 3) := by decide +kernel
theorem dV_forward_32 : decode prog_6_method_7_code 32 = .ok (.goto (4), 3) := by decide +kernel
theorem dV_forward_35 : decode prog_6_method_7_code 35 = .ok (.iconst 2, 1) := by decide +kernel
theorem dV_forward_36 : decode prog_6_method_7_code 36 = .ok (.istore 6, 2) := by decide +kernel
theorem dV_forward_38 : decode prog_6_method_7_code 38 = .ok (.aload_n 1, 1) := by decide +kernel
theorem dV_forward_39 : decode prog_6_method_7_code 39 = .ok (.getfield 70, 3) := by decide +kernel
theorem dV_forward_42 : decode prog_6_method_7_code 42 = .ok (.iload_n 3, 1) := by decide +kernel
theorem dV_forward_43 : decode prog_6_method_7_code 43 = .ok (.iaload, 1) := by decide +kernel
theorem dV_forward_44 : decode prog_6_method_7_code 44 = .ok (.iload 5, 2) := by decide +kernel
theorem dV_forward_46 : decode prog_6_method_7_code 46 = .ok (.iload 6, 2) := by decide +kernel
theorem dV_forward_48 : decode prog_6_method_7_code 48 = .ok (.invokestatic 73, 3) := by decide +kernel
theorem dV_forward_51 : decode prog_6_method_7_code 51 = .ok (.istore 7, 2) := by decide +kernel
theorem dV_forward_53 : decode prog_6_method_7_code 53 = .ok (.iconst 0, 1) := by decide +kernel
theorem dV_forward_54 : decode prog_6_method_7_code 54 = .ok (.istore 8, 2) := by decide +kernel
theorem dV_forward_56 : decode prog_6_method_7_code 56 = .ok (.iload 8, 2) := by decide +kernel
theorem dV_forward_58 : decode prog_6_method_7_code 58 = .ok (.bipush (27), 2) := by decide +kernel
theorem dV_forward_60 : decode prog_6_method_7_code 60 = .ok (.if_icmp .ge (28), 3) := by decide +kernel
theorem dV_forward_63 : decode prog_6_method_7_code 63 = .ok (.aload_n 1, 1) := by decide +kernel
theorem dV_forward_64 : decode prog_6_method_7_code 64 = .ok (.getfield 61, 3) := by decide +kernel
theorem dV_forward_67 : decode prog_6_method_7_code 67 = .ok (.iload 8, 2) := by decide +kernel
theorem dV_forward_69 : decode prog_6_method_7_code 69 = .ok (.iaload, 1) := by decide +kernel
theorem dV_forward_70 : decode prog_6_method_7_code 70 = .ok (.iload_n 3, 1) := by decide +kernel
theorem dV_forward_71 : decode prog_6_method_7_code 71 = .ok (.if_icmp .ne (11), 3) := by decide +kernel
theorem dV_forward_74 : decode prog_6_method_7_code 74 = .ok (.aload_n 2, 1) := by decide +kernel
theorem dV_forward_75 : decode prog_6_method_7_code 75 = .ok (.iload 8, 2) := by decide +kernel
theorem dV_forward_77 : decode prog_6_method_7_code 77 = .ok (.iload 7, 2) := by decide +kernel
theorem dV_forward_79 : decode prog_6_method_7_code 79 = .ok (.invokevirtual 79, 3) := by decide +kernel
theorem dV_forward_82 : decode prog_6_method_7_code 82 = .ok (.iinc 8 (1), 3) := by decide +kernel
theorem dV_forward_85 : decode prog_6_method_7_code 85 = .ok (.goto (-29), 3) := by decide +kernel
theorem dV_forward_88 : decode prog_6_method_7_code 88 = .ok (.return_, 1) := by decide +kernel
theorem dV_backward_0 : decode prog_6_method_8_code 0 = .ok (.iconst 2, 1) := by decide +kernel
theorem dV_backward_1 : decode prog_6_method_8_code 1 = .ok (.istore 4, 2) := by decide +kernel
theorem dV_backward_3 : decode prog_6_method_8_code 3 = .ok (.iconst 0, 1) := by decide +kernel
theorem dV_backward_4 : decode prog_6_method_8_code 4 = .ok (.istore 5, 2) := by decide +kernel
theorem dV_backward_6 : decode prog_6_method_8_code 6 = .ok (.iload 5, 2) := by decide +kernel
theorem dV_backward_8 : decode prog_6_method_8_code 8 = .ok (.bipush (27), 2) := by decide +kernel
theorem dV_backward_10 : decode prog_6_method_8_code 10 = .ok (.if_icmp .ge (33), 3) := by decide +kernel
theorem dV_backward_13 : decode prog_6_method_8_code 13 = .ok (.aload_n 1, 1) := by decide +kernel
theorem dV_backward_14 : decode prog_6_method_8_code 14 = .ok (.getfield 61, 3) := by decide +kernel
theorem dV_backward_17 : decode prog_6_method_8_code 17 = .ok (.iload 5, 2) := by decide +kernel
theorem dV_backward_19 : decode prog_6_method_8_code 19 = .ok (.iaload, 1) := by decide +kernel
theorem dV_backward_20 : decode prog_6_method_8_code 20 = .ok (.iload_n 3, 1) := by decide +kernel
theorem dV_backward_21 : decode prog_6_method_8_code 21 = .ok (.if_icmp .ne (16), 3) := by decide +kernel
theorem dV_backward_24 : decode prog_6_method_8_code 24 = .ok (.iload 4, 2) := by decide +kernel
theorem dV_backward_26 : decode prog_6_method_8_code 26 = .ok (.aload_n 2, 1) := by decide +kernel
theorem dV_backward_27 : decode prog_6_method_8_code 27 = .ok (.iload 5, 2) := by decide +kernel
theorem dV_backward_29 : decode prog_6_method_8_code 29 = .ok (.invokevirtual 83, 3) := by decide +kernel
theorem dV_backward_32 : decode prog_6_method_8_code 32 = .ok (.invokestatic 86, 3) := by decide +kernel
theorem dV_backward_35 : decode prog_6_method_8_code 35 = .ok (.istore 4, 2) := by decide +kernel
theorem dV_backward_37 : decode prog_6_method_8_code 37 = .ok (.iinc 5 (1), 3) := by decide +kernel
theorem dV_backward_40 : decode prog_6_method_8_code 40 = .ok (.goto (-34), 3) := by decide +kernel
theorem dV_backward_43 : decode prog_6_method_8_code 43 = .ok (.iload 4, 2) := by decide +kernel
theorem dV_backward_45 : decode prog_6_method_8_code 45 = .ok (.iconst 3, 1) := by decide +kernel
theorem dV_backward_46 : decode prog_6_method_8_code 46 = .ok (.if_icmp .ne (5), 3) := by decide +kernel
theorem dV_backward_49 : decode prog_6_method_8_code 49 = .ok (.iconst 0, 1) := by decide +kernel
theorem dV_backward_50 : decode prog_6_method_8_code 50 = .ok (.ireturn, 1) := by decide +kernel
theorem dV_backward_51 : decode prog_6_method_8_code 51 = .ok (.aload_n 1, 1) := by decide +kernel
theorem dV_backward_52 : decode prog_6_method_8_code 52 = .ok (.iload_n 3, 1) := by decide +kernel
theorem dV_backward_53 : decode prog_6_method_8_code 53 = .ok (.invokevirtual 49, 3) := by decide +kernel
theorem dV_backward_56 : decode prog_6_method_8_code 56 = .ok (.istore 5, 2) := by decide +kernel
theorem dV_backward_58 : decode prog_6_method_8_code 58 = .ok (.iload 5, 2) := by decide +kernel
theorem dV_backward_60 : decode prog_6_method_8_code 60 = .ok (.istore 6, 2) := by decide +kernel
theorem dV_backward_62 : decode prog_6_method_8_code 62 = .ok (.iload 6, 2) := by decide +kernel
theorem dV_backward_64 : decode prog_6_method_8_code 64 = .ok (.aload_n 1, 1) := by decide +kernel
theorem dV_backward_65 : decode prog_6_method_8_code 65 = .ok (.iload_n 3, 1) := by decide +kernel
theorem dV_backward_66 : decode prog_6_method_8_code 66 = .ok (.invokevirtual 53, 3) := by decide +kernel
theorem dV_backward_69 : decode prog_6_method_8_code 69 = .ok (.if_icmp .ge (31), 3) := by decide +kernel
theorem dV_backward_72 : decode prog_6_method_8_code 72 = .ok (.aload_n 2, 1) := by decide +kernel
theorem dV_backward_73 : decode prog_6_method_8_code 73 = .ok (.iload 6, 2) := by decide +kernel
theorem dV_backward_75 : decode prog_6_method_8_code 75 = .ok (.aload_n 1, 1) := by decide +kernel
theorem dV_backward_76 : decode prog_6_method_8_code 76 = .ok (.getfield 70, 3) := by decide +kernel
theorem dV_backward_79 : decode prog_6_method_8_code 79 = .ok (.iload_n 3, 1) := by decide +kernel
theorem dV_backward_80 : decode prog_6_method_8_code 80 = .ok (.iaload, 1) := by decide +kernel
theorem dV_backward_81 : decode prog_6_method_8_code 81 = .ok (.iload 6, 2) := by decide +kernel
theorem dV_backward_83 : decode prog_6_method_8_code 83 = .ok (.iload 5, 2) := by decide +kernel
theorem dV_backward_85 : decode prog_6_method_8_code 85 = .ok (.isub, 1) := by decide +kernel
theorem dV_backward_86 : decode prog_6_method_8_code 86 = .ok (.iload 4, 2) := by decide +kernel
theorem dV_backward_88 : decode prog_6_method_8_code 88 = .ok (.invokestatic 90, 3) := by decide +kernel
theorem dV_backward_91 : decode prog_6_method_8_code 91 = .ok (.invokevirtual 93, 3) := by decide +kernel
theorem dV_backward_94 : decode prog_6_method_8_code 94 = .ok (.iinc 6 (1), 3) := by decide +kernel
theorem dV_backward_97 : decode prog_6_method_8_code 97 = .ok (.goto (-35), 3) := by decide +kernel
theorem dV_backward_100 : decode prog_6_method_8_code 100 = .ok (.iconst 1, 1) := by decide +kernel
theorem dV_backward_101 : decode prog_6_method_8_code 101 = .ok (.ireturn, 1) := by decide +kernel
theorem dV_joined_0 : decode prog_6_method_9_code 0 = .ok (.iload_n 0, 1) := by decide +kernel
theorem dV_joined_1 : decode prog_6_method_9_code 1 = .ok (.iconst 2, 1) := by decide +kernel
theorem dV_joined_2 : decode prog_6_method_9_code 2 = .ok (.if_icmp .eq (8), 3) := by decide +kernel
theorem dV_joined_5 : decode prog_6_method_9_code 5 = .ok (.iload_n 0, 1) := by decide +kernel
theorem dV_joined_6 : decode prog_6_method_9_code 6 = .ok (.iload_n 1, 1) := by decide +kernel
theorem dV_joined_7 : decode prog_6_method_9_code 7 = .ok (.if_icmp .ne (5), 3) := by decide +kernel
theorem dV_joined_10 : decode prog_6_method_9_code 10 = .ok (.iload_n 1, 1) := by decide +kernel
theorem dV_joined_11 : decode prog_6_method_9_code 11 = .ok (.ireturn, 1) := by decide +kernel
theorem dV_joined_12 : decode prog_6_method_9_code 12 = .ok (.iload_n 1, 1) := by decide +kernel
theorem dV_joined_13 : decode prog_6_method_9_code 13 = .ok (.iconst 2, 1) := by decide +kernel
theorem dV_joined_14 : decode prog_6_method_9_code 14 = .ok (.if_icmp .ne (7), 3) := by decide +kernel
theorem dV_joined_17 : decode prog_6_method_9_code 17 = .ok (.iload_n 0, 1) := by decide +kernel
theorem dV_joined_18 : decode prog_6_method_9_code 18 = .ok (.goto (4), 3) := by decide +kernel
theorem dV_joined_21 : decode prog_6_method_9_code 21 = .ok (.iconst 3, 1) := by decide +kernel
theorem dV_joined_22 : decode prog_6_method_9_code 22 = .ok (.ireturn, 1) := by decide +kernel
theorem dO_arrange_0 : decode prog_7_method_2_code 0 = .ok (.aload_n 0, 1) := by decide +kernel
theorem dO_arrange_1 : decode prog_7_method_2_code 1 = .ok (.iconst 0, 1) := by decide +kernel
theorem dO_arrange_2 : decode prog_7_method_2_code 2 = .ok (.putfield 19, 3) := by decide +kernel
theorem dO_arrange_5 : decode prog_7_method_2_code 5 = .ok (.iconst 1, 1) := by decide +kernel
theorem dO_arrange_6 : decode prog_7_method_2_code 6 = .ok (.istore_n 3, 1) := by decide +kernel
theorem dO_arrange_7 : decode prog_7_method_2_code 7 = .ok (.iload_n 3, 1) := by decide +kernel
theorem dO_arrange_8 : decode prog_7_method_2_code 8 = .ok (.aload_n 1, 1) := by decide +kernel
theorem dO_arrange_9 : decode prog_7_method_2_code 9 = .ok (.getfield 23, 3) := by decide +kernel
theorem dO_arrange_12 : decode prog_7_method_2_code 12 = .ok (.if_icmp .gt (16), 3) := by decide +kernel
theorem dO_arrange_15 : decode prog_7_method_2_code 15 = .ok (.aload_n 0, 1) := by decide +kernel
theorem dO_arrange_16 : decode prog_7_method_2_code 16 = .ok (.getfield 15, 3) := by decide +kernel
theorem dO_arrange_19 : decode prog_7_method_2_code 19 = .ok (.iload_n 3, 1) := by decide +kernel
theorem dO_arrange_20 : decode prog_7_method_2_code 20 = .ok (.iconst 0, 1) := by decide +kernel
theorem dO_arrange_21 : decode prog_7_method_2_code 21 = .ok (.bastore, 1) := by decide +kernel
theorem dO_arrange_22 : decode prog_7_method_2_code 22 = .ok (.iinc 3 (1), 3) := by decide +kernel
theorem dO_arrange_25 : decode prog_7_method_2_code 25 = .ok (.goto (-18), 3) := by decide +kernel
theorem dO_arrange_28 : decode prog_7_method_2_code 28 = .ok (.iconst 0, 1) := by decide +kernel
theorem dO_arrange_29 : decode prog_7_method_2_code 29 = .ok (.istore_n 3, 1) := by decide +kernel
theorem dO_arrange_30 : decode prog_7_method_2_code 30 = .ok (.iload_n 3, 1) := by decide +kernel
theorem dO_arrange_31 : decode prog_7_method_2_code 31 = .ok (.aload_n 1, 1) := by decide +kernel
theorem dO_arrange_32 : decode prog_7_method_2_code 32 = .ok (.getfield 23, 3) := by decide +kernel
theorem dO_arrange_35 : decode prog_7_method_2_code 35 = .ok (.if_icmp .ge (26), 3) := by decide +kernel
theorem dO_arrange_38 : decode prog_7_method_2_code 38 = .ok (.aload_n 0, 1) := by decide +kernel
theorem dO_arrange_39 : decode prog_7_method_2_code 39 = .ok (.getfield 19, 3) := by decide +kernel
theorem dO_arrange_42 : decode prog_7_method_2_code 42 = .ok (.aload_n 1, 1) := by decide +kernel
theorem dO_arrange_43 : decode prog_7_method_2_code 43 = .ok (.getfield 23, 3) := by decide +kernel
theorem dO_arrange_46 : decode prog_7_method_2_code 46 = .ok (.if_icmp .ge (15), 3) := by decide +kernel
theorem dO_arrange_49 : decode prog_7_method_2_code 49 = .ok (.aload_n 0, 1) := by decide +kernel
theorem dO_arrange_50 : decode prog_7_method_2_code 50 = .ok (.aload_n 1, 1) := by decide +kernel
theorem dO_arrange_51 : decode prog_7_method_2_code 51 = .ok (.aload_n 2, 1) := by decide +kernel
theorem dO_arrange_52 : decode prog_7_method_2_code 52 = .ok (.invokevirtual 28, 3) := by decide +kernel
theorem dO_arrange_55 : decode prog_7_method_2_code 55 = .ok (.iinc 3 (1), 3) := by decide +kernel
theorem dO_arrange_58 : decode prog_7_method_2_code 58 = .ok (.goto (-28), 3) := by decide +kernel
theorem dO_arrange_61 : decode prog_7_method_2_code 61 = .ok (.aload_n 0, 1) := by decide +kernel
theorem dO_arrange_62 : decode prog_7_method_2_code 62 = .ok (.getfield 19, 3) := by decide +kernel
theorem dO_arrange_65 : decode prog_7_method_2_code 65 = .ok (.aload_n 1, 1) := by decide +kernel
theorem dO_arrange_66 : decode prog_7_method_2_code 66 = .ok (.getfield 23, 3) := by decide +kernel
theorem dO_arrange_69 : decode prog_7_method_2_code 69 = .ok (.if_icmp .ne (7), 3) := by decide +kernel
theorem dO_arrange_72 : decode prog_7_method_2_code 72 = .ok (.iconst 1, 1) := by decide +kernel
theorem dO_arrange_73 : decode prog_7_method_2_code 73 = .ok (.goto (4), 3) := by decide +kernel
theorem dO_arrange_76 : decode prog_7_method_2_code 76 = .ok (.iconst 0, 1) := by decide +kernel
theorem dO_arrange_77 : decode prog_7_method_2_code 77 = .ok (.ireturn, 1) := by decide +kernel
theorem dO_placeReady_0 : decode prog_7_method_3_code 0 = .ok (.iconst 1, 1) := by decide +kernel
theorem dO_placeReady_1 : decode prog_7_method_3_code 1 = .ok (.istore_n 3, 1) := by decide +kernel
theorem dO_placeReady_2 : decode prog_7_method_3_code 2 = .ok (.iload_n 3, 1) := by decide +kernel
theorem dO_placeReady_3 : decode prog_7_method_3_code 3 = .ok (.aload_n 1, 1) := by decide +kernel
theorem dO_placeReady_4 : decode prog_7_method_3_code 4 = .ok (.getfield 23, 3) := by decide +kernel
theorem dO_placeReady_7 : decode prog_7_method_3_code 7 = .ok (.if_icmp .gt (55), 3) := by decide +kernel
theorem dO_placeReady_10 : decode prog_7_method_3_code 10 = .ok (.aload_n 0, 1) := by decide +kernel
theorem dO_placeReady_11 : decode prog_7_method_3_code 11 = .ok (.getfield 15, 3) := by decide +kernel
theorem dO_placeReady_14 : decode prog_7_method_3_code 14 = .ok (.iload_n 3, 1) := by decide +kernel
theorem dO_placeReady_15 : decode prog_7_method_3_code 15 = .ok (.baload, 1) := by decide +kernel
theorem dO_placeReady_16 : decode prog_7_method_3_code 16 = .ok (.ifCond .ne (40), 3) := by decide +kernel
theorem dO_placeReady_19 : decode prog_7_method_3_code 19 = .ok (.aload_n 0, 1) := by decide +kernel
theorem dO_placeReady_20 : decode prog_7_method_3_code 20 = .ok (.aload_n 1, 1) := by decide +kernel
theorem dO_placeReady_21 : decode prog_7_method_3_code 21 = .ok (.aload_n 2, 1) := by decide +kernel
theorem dO_placeReady_22 : decode prog_7_method_3_code 22 = .ok (.iload_n 3, 1) := by decide +kernel
theorem dO_placeReady_23 : decode prog_7_method_3_code 23 = .ok (.invokevirtual 32, 3) := by decide +kernel
theorem dO_placeReady_26 : decode prog_7_method_3_code 26 = .ok (.ifCond .eq (30), 3) := by decide +kernel
theorem dO_placeReady_29 : decode prog_7_method_3_code 29 = .ok (.aload_n 0, 1) := by decide +kernel
theorem dO_placeReady_30 : decode prog_7_method_3_code 30 = .ok (.getfield 15, 3) := by decide +kernel
theorem dO_placeReady_33 : decode prog_7_method_3_code 33 = .ok (.iload_n 3, 1) := by decide +kernel
theorem dO_placeReady_34 : decode prog_7_method_3_code 34 = .ok (.iconst 1, 1) := by decide +kernel
theorem dO_placeReady_35 : decode prog_7_method_3_code 35 = .ok (.bastore, 1) := by decide +kernel
theorem dO_placeReady_36 : decode prog_7_method_3_code 36 = .ok (.aload_n 0, 1) := by decide +kernel
theorem dO_placeReady_37 : decode prog_7_method_3_code 37 = .ok (.getfield 9, 3) := by decide +kernel
theorem dO_placeReady_40 : decode prog_7_method_3_code 40 = .ok (.aload_n 0, 1) := by decide +kernel
theorem dO_placeReady_41 : decode prog_7_method_3_code 41 = .ok (.getfield 19, 3) := by decide +kernel
theorem dO_placeReady_44 : decode prog_7_method_3_code 44 = .ok (.iload_n 3, 1) := by decide +kernel
theorem dO_placeReady_45 : decode prog_7_method_3_code 45 = .ok (.iastore, 1) := by decide +kernel
theorem dO_placeReady_46 : decode prog_7_method_3_code 46 = .ok (.aload_n 0, 1) := by decide +kernel
theorem dO_placeReady_47 : decode prog_7_method_3_code 47 = .ok (.dup, 1) := by decide +kernel
theorem dO_placeReady_48 : decode prog_7_method_3_code 48 = .ok (.getfield 19, 3) := by decide +kernel
theorem dO_placeReady_51 : decode prog_7_method_3_code 51 = .ok (.iconst 1, 1) := by decide +kernel
theorem dO_placeReady_52 : decode prog_7_method_3_code 52 = .ok (.iadd, 1) := by decide +kernel
theorem dO_placeReady_53 : decode prog_7_method_3_code 53 = .ok (.putfield 19, 3) := by decide +kernel
theorem dO_placeReady_56 : decode prog_7_method_3_code 56 = .ok (.iinc 3 (1), 3) := by decide +kernel
theorem dO_placeReady_59 : decode prog_7_method_3_code 59 = .ok (.goto (-57), 3) := by decide +kernel
theorem dO_placeReady_62 : decode prog_7_method_3_code 62 = .ok (.return_, 1) := by decide +kernel
theorem dO_isReady_0 : decode prog_7_method_4_code 0 = .ok (.aload_n 1, 1) := by decide +kernel
theorem dO_isReady_1 : decode prog_7_method_4_code 1 = .ok (.iload_n 3, 1) := by decide +kernel
theorem dO_isReady_2 : decode prog_7_method_4_code 2 = .ok (.invokevirtual 36, 3) := by decide +kernel
theorem dO_isReady_5 : decode prog_7_method_4_code 5 = .ok (.istore 4, 2) := by decide +kernel
theorem dO_isReady_7 : decode prog_7_method_4_code 7 = .ok (.iload 4, 2) := by decide +kernel
theorem dO_isReady_9 : decode prog_7_method_4_code 9 = .ok (.aload_n 1, 1) := by decide +kernel
theorem dO_isReady_10 : decode prog_7_method_4_code 10 = .ok (.iload_n 3, 1) := by decide +kernel
theorem dO_isReady_11 : decode prog_7_method_4_code 11 = .ok (.invokevirtual 40, 3) := by decide +kernel
theorem dO_isReady_14 : decode prog_7_method_4_code 14 = .ok (.if_icmp .ge (43), 3) := by decide +kernel
theorem dO_isReady_17 : decode prog_7_method_4_code 17 = .ok (.aload_n 1, 1) := by decide +kernel
theorem dO_isReady_18 : decode prog_7_method_4_code 18 = .ok (.iload 4, 2) := by decide +kernel
theorem dO_isReady_20 : decode prog_7_method_4_code 20 = .ok (.invokevirtual 43, 3) := by decide +kernel
theorem dO_isReady_23 : decode prog_7_method_4_code 23 = .ok (.istore 5, 2) := by decide +kernel
theorem dO_isReady_25 : decode prog_7_method_4_code 25 = .ok (.aload_n 2, 1) := by decide +kernel
theorem dO_isReady_26 : decode prog_7_method_4_code 26 = .ok (.iload 4, 2) := by decide +kernel
theorem dO_isReady_28 : decode prog_7_method_4_code 28 = .ok (.invokevirtual 46, 3) := by decide +kernel
theorem dO_isReady_31 : decode prog_7_method_4_code 31 = .ok (.ifCond .ne (20), 3) := by decide +kernel
theorem dO_isReady_34 : decode prog_7_method_4_code 34 = .ok (.iload 5, 2) := by decide +kernel
theorem dO_isReady_36 : decode prog_7_method_4_code 36 = .ok (.ifCond .eq (15), 3) := by decide +kernel
theorem dO_isReady_39 : decode prog_7_method_4_code 39 = .ok (.aload_n 0, 1) := by decide +kernel
theorem dO_isReady_40 : decode prog_7_method_4_code 40 = .ok (.getfield 15, 3) := by decide +kernel
theorem dO_isReady_43 : decode prog_7_method_4_code 43 = .ok (.iload 5, 2) := by decide +kernel
theorem dO_isReady_45 : decode prog_7_method_4_code 45 = .ok (.baload, 1) := by decide +kernel
theorem dO_isReady_46 : decode prog_7_method_4_code 46 = .ok (.ifCond .ne (5), 3) := by decide +kernel
theorem dO_isReady_49 : decode prog_7_method_4_code 49 = .ok (.iconst 0, 1) := by decide +kernel
theorem dO_isReady_50 : decode prog_7_method_4_code 50 = .ok (.ireturn, 1) := by decide +kernel
theorem dO_isReady_51 : decode prog_7_method_4_code 51 = .ok (.iinc 4 (1), 3) := by decide +kernel
theorem dO_isReady_54 : decode prog_7_method_4_code 54 = .ok (.goto (-47), 3) := by decide +kernel
theorem dO_isReady_57 : decode prog_7_method_4_code 57 = .ok (.iconst 1, 1) := by decide +kernel
theorem dO_isReady_58 : decode prog_7_method_4_code 58 = .ok (.ireturn, 1) := by decide +kernel
theorem dH_measure_0 : decode prog_8_method_2_code 0 = .ok (.iconst 1, 1) := by decide +kernel
theorem dH_measure_1 : decode prog_8_method_2_code 1 = .ok (.istore_n 3, 1) := by decide +kernel
theorem dH_measure_2 : decode prog_8_method_2_code 2 = .ok (.iload_n 3, 1) := by decide +kernel
theorem dH_measure_3 : decode prog_8_method_2_code 3 = .ok (.aload_n 1, 1) := by decide +kernel
theorem dH_measure_4 : decode prog_8_method_2_code 4 = .ok (.getfield 19, 3) := by decide +kernel
theorem dH_measure_7 : decode prog_8_method_2_code 7 = .ok (.if_icmp .gt (60), 3) := by decide +kernel
theorem dH_measure_10 : decode prog_8_method_2_code 10 = .ok (.iconst 1, 1) := by decide +kernel
theorem dH_measure_11 : decode prog_8_method_2_code 11 = .ok (.istore 4, 2) := by decide +kernel
theorem dH_measure_13 : decode prog_8_method_2_code 13 = .ok (.iload 4, 2) := by decide +kernel
theorem dH_measure_15 : decode prog_8_method_2_code 15 = .ok (.aload_n 1, 1) := by decide +kernel
theorem dH_measure_16 : decode prog_8_method_2_code 16 = .ok (.getfield 19, 3) := by decide +kernel
theorem dH_measure_19 : decode prog_8_method_2_code 19 = .ok (.if_icmp .gt (29), 3) := by decide +kernel
theorem dH_measure_22 : decode prog_8_method_2_code 22 = .ok (.aload_n 0, 1) := by decide +kernel
theorem dH_measure_23 : decode prog_8_method_2_code 23 = .ok (.getfield 11, 3) := by decide +kernel
theorem dH_measure_26 : decode prog_8_method_2_code 26 = .ok (.iload_n 3, 1) := by decide +kernel
theorem dH_measure_27 : decode prog_8_method_2_code 27 = .ok (.aaload, 1) := by decide +kernel
theorem dH_measure_28 : decode prog_8_method_2_code 28 = .ok (.iload 4, 2) := by decide +kernel
theorem dH_measure_30 : decode prog_8_method_2_code 30 = .ok (.iconst (-1), 1) := by decide +kernel
theorem dH_measure_31 : decode prog_8_method_2_code 31 = .ok (.iastore, 1) := by decide +kernel
theorem dH_measure_32 : decode prog_8_method_2_code 32 = .ok (.aload_n 0, 1) := by decide +kernel
theorem dH_measure_33 : decode prog_8_method_2_code 33 = .ok (.getfield 16, 3) := by decide +kernel
theorem dH_measure_36 : decode prog_8_method_2_code 36 = .ok (.iload_n 3, 1) := by decide +kernel
theorem dH_measure_37 : decode prog_8_method_2_code 37 = .ok (.aaload, 1) := by decide +kernel
theorem dH_measure_38 : decode prog_8_method_2_code 38 = .ok (.iload 4, 2) := by decide +kernel
theorem dH_measure_40 : decode prog_8_method_2_code 40 = .ok (.iconst (-1), 1) := by decide +kernel
theorem dH_measure_41 : decode prog_8_method_2_code 41 = .ok (.iastore, 1) := by decide +kernel
theorem dH_measure_42 : decode prog_8_method_2_code 42 = .ok (.iinc 4 (1), 3) := by decide +kernel
theorem dH_measure_45 : decode prog_8_method_2_code 45 = .ok (.goto (-32), 3) := by decide +kernel
theorem dH_measure_48 : decode prog_8_method_2_code 48 = .ok (.aload_n 0, 1) := by decide +kernel
theorem dH_measure_49 : decode prog_8_method_2_code 49 = .ok (.iload_n 3, 1) := by decide +kernel
theorem dH_measure_50 : decode prog_8_method_2_code 50 = .ok (.iload_n 3, 1) := by decide +kernel
theorem dH_measure_51 : decode prog_8_method_2_code 51 = .ok (.iconst 0, 1) := by decide +kernel
theorem dH_measure_52 : decode prog_8_method_2_code 52 = .ok (.aload_n 1, 1) := by decide +kernel
theorem dH_measure_53 : decode prog_8_method_2_code 53 = .ok (.getfield 25, 3) := by decide +kernel
theorem dH_measure_56 : decode prog_8_method_2_code 56 = .ok (.iload_n 3, 1) := by decide +kernel
theorem dH_measure_57 : decode prog_8_method_2_code 57 = .ok (.iaload, 1) := by decide +kernel
theorem dH_measure_58 : decode prog_8_method_2_code 58 = .ok (.invokevirtual 29, 3) := by decide +kernel
theorem dH_measure_61 : decode prog_8_method_2_code 61 = .ok (.iinc 3 (1), 3) := by decide +kernel
theorem dH_measure_64 : decode prog_8_method_2_code 64 = .ok (.goto (-62), 3) := by decide +kernel
theorem dH_measure_67 : decode prog_8_method_2_code 67 = .ok (.iconst 0, 1) := by decide +kernel
theorem dH_measure_68 : decode prog_8_method_2_code 68 = .ok (.istore_n 3, 1) := by decide +kernel
theorem dH_measure_69 : decode prog_8_method_2_code 69 = .ok (.iload_n 3, 1) := by decide +kernel
theorem dH_measure_70 : decode prog_8_method_2_code 70 = .ok (.bipush (27), 2) := by decide +kernel
theorem dH_measure_72 : decode prog_8_method_2_code 72 = .ok (.if_icmp .ge (16), 3) := by decide +kernel
theorem dH_measure_75 : decode prog_8_method_2_code 75 = .ok (.aload_n 0, 1) := by decide +kernel
theorem dH_measure_76 : decode prog_8_method_2_code 76 = .ok (.aload_n 1, 1) := by decide +kernel
theorem dH_measure_77 : decode prog_8_method_2_code 77 = .ok (.aload_n 2, 1) := by decide +kernel
theorem dH_measure_78 : decode prog_8_method_2_code 78 = .ok (.iload_n 3, 1) := by decide +kernel
theorem dH_measure_79 : decode prog_8_method_2_code 79 = .ok (.invokevirtual 33, 3) := by decide +kernel
theorem dH_measure_82 : decode prog_8_method_2_code 82 = .ok (.iinc 3 (1), 3) := by decide +kernel
theorem dH_measure_85 : decode prog_8_method_2_code 85 = .ok (.goto (-16), 3) := by decide +kernel
theorem dH_measure_88 : decode prog_8_method_2_code 88 = .ok (.iconst 1, 1) := by decide +kernel
theorem dH_measure_89 : decode prog_8_method_2_code 89 = .ok (.istore_n 3, 1) := by decide +kernel
theorem dH_measure_90 : decode prog_8_method_2_code 90 = .ok (.iload_n 3, 1) := by decide +kernel
theorem dH_measure_91 : decode prog_8_method_2_code 91 = .ok (.aload_n 1, 1) := by decide +kernel
theorem dH_measure_92 : decode prog_8_method_2_code 92 = .ok (.getfield 19, 3) := by decide +kernel
theorem dH_measure_95 : decode prog_8_method_2_code 95 = .ok (.if_icmp .gt (35), 3) := by decide +kernel
theorem dH_measure_98 : decode prog_8_method_2_code 98 = .ok (.iconst 1, 1) := by decide +kernel
theorem dH_measure_99 : decode prog_8_method_2_code 99 = .ok (.istore 4, 2) := by decide +kernel
theorem dH_measure_101 : decode prog_8_method_2_code 101 = .ok (.iload 4, 2) := by decide +kernel
theorem dH_measure_103 : decode prog_8_method_2_code 103 = .ok (.aload_n 1, 1) := by decide +kernel
theorem dH_measure_104 : decode prog_8_method_2_code 104 = .ok (.getfield 19, 3) := by decide +kernel
theorem dH_measure_107 : decode prog_8_method_2_code 107 = .ok (.if_icmp .gt (17), 3) := by decide +kernel
theorem dH_measure_110 : decode prog_8_method_2_code 110 = .ok (.aload_n 0, 1) := by decide +kernel
theorem dH_measure_111 : decode prog_8_method_2_code 111 = .ok (.aload_n 1, 1) := by decide +kernel
theorem dH_measure_112 : decode prog_8_method_2_code 112 = .ok (.iload 4, 2) := by decide +kernel
theorem dH_measure_114 : decode prog_8_method_2_code 114 = .ok (.iload_n 3, 1) := by decide +kernel
theorem dH_measure_115 : decode prog_8_method_2_code 115 = .ok (.invokevirtual 37, 3) := by decide +kernel
theorem dH_measure_118 : decode prog_8_method_2_code 118 = .ok (.iinc 4 (1), 3) := by decide +kernel
theorem dH_measure_121 : decode prog_8_method_2_code 121 = .ok (.goto (-20), 3) := by decide +kernel
theorem dH_measure_124 : decode prog_8_method_2_code 124 = .ok (.iinc 3 (1), 3) := by decide +kernel
theorem dH_measure_127 : decode prog_8_method_2_code 127 = .ok (.goto (-37), 3) := by decide +kernel
theorem dH_measure_130 : decode prog_8_method_2_code 130 = .ok (.return_, 1) := by decide +kernel
theorem dH_longestUnregistered_0 : decode prog_8_method_3_code 0 = .ok (.iconst 0, 1) := by decide +kernel
theorem dH_longestUnregistered_1 : decode prog_8_method_3_code 1 = .ok (.istore_n 2, 1) := by decide +kernel
theorem dH_longestUnregistered_2 : decode prog_8_method_3_code 2 = .ok (.iconst 1, 1) := by decide +kernel
theorem dH_longestUnregistered_3 : decode prog_8_method_3_code 3 = .ok (.istore_n 3, 1) := by decide +kernel
theorem dH_longestUnregistered_4 : decode prog_8_method_3_code 4 = .ok (.iload_n 3, 1) := by decide +kernel
theorem dH_longestUnregistered_5 : decode prog_8_method_3_code 5 = .ok (.iload_n 1, 1) := by decide +kernel
theorem dH_longestUnregistered_6 : decode prog_8_method_3_code 6 = .ok (.if_icmp .gt (50), 3) := by decide +kernel
theorem dH_longestUnregistered_9 : decode prog_8_method_3_code 9 = .ok (.iconst 1, 1) := by decide +kernel
theorem dH_longestUnregistered_10 : decode prog_8_method_3_code 10 = .ok (.istore 4, 2) := by decide +kernel
theorem dH_longestUnregistered_12 : decode prog_8_method_3_code 12 = .ok (.iload 4, 2) := by decide +kernel
theorem dH_longestUnregistered_14 : decode prog_8_method_3_code 14 = .ok (.iload_n 1, 1) := by decide +kernel
theorem dH_longestUnregistered_15 : decode prog_8_method_3_code 15 = .ok (.if_icmp .gt (35), 3) := by decide +kernel
theorem dH_longestUnregistered_18 : decode prog_8_method_3_code 18 = .ok (.aload_n 0, 1) := by decide +kernel
theorem dH_longestUnregistered_19 : decode prog_8_method_3_code 19 = .ok (.getfield 11, 3) := by decide +kernel
theorem dH_longestUnregistered_22 : decode prog_8_method_3_code 22 = .ok (.iload_n 3, 1) := by decide +kernel
theorem dH_longestUnregistered_23 : decode prog_8_method_3_code 23 = .ok (.aaload, 1) := by decide +kernel
theorem dH_longestUnregistered_24 : decode prog_8_method_3_code 24 = .ok (.iload 4, 2) := by decide +kernel
theorem dH_longestUnregistered_26 : decode prog_8_method_3_code 26 = .ok (.iaload, 1) := by decide +kernel
theorem dH_longestUnregistered_27 : decode prog_8_method_3_code 27 = .ok (.ifCond .ne (17), 3) := by decide +kernel
theorem dH_longestUnregistered_30 : decode prog_8_method_3_code 30 = .ok (.iload_n 2, 1) := by decide +kernel
theorem dH_longestUnregistered_31 : decode prog_8_method_3_code 31 = .ok (.aload_n 0, 1) := by decide +kernel
theorem dH_longestUnregistered_32 : decode prog_8_method_3_code 32 = .ok (.getfield 16, 3) := by decide +kernel
theorem dH_longestUnregistered_35 : decode prog_8_method_3_code 35 = .ok (.iload_n 3, 1) := by decide +kernel
theorem dH_longestUnregistered_36 : decode prog_8_method_3_code 36 = .ok (.aaload, 1) := by decide +kernel
theorem dH_longestUnregistered_37 : decode prog_8_method_3_code 37 = .ok (.iload 4, 2) := by decide +kernel
theorem dH_longestUnregistered_39 : decode prog_8_method_3_code 39 = .ok (.iaload, 1) := by decide +kernel
theorem dH_longestUnregistered_40 : decode prog_8_method_3_code 40 = .ok (.invokestatic 41, 3) := by decide +kernel
theorem dH_longestUnregistered_43 : decode prog_8_method_3_code 43 = .ok (.istore_n 2, 1) := by decide +kernel
theorem dH_longestUnregistered_44 : decode prog_8_method_3_code 44 = .ok (.iinc 4 (1), 3) := by decide +kernel
theorem dH_longestUnregistered_47 : decode prog_8_method_3_code 47 = .ok (.goto (-35), 3) := by decide +kernel
theorem dH_longestUnregistered_50 : decode prog_8_method_3_code 50 = .ok (.iinc 3 (1), 3) := by decide +kernel
theorem dH_longestUnregistered_53 : decode prog_8_method_3_code 53 = .ok (.goto (-49), 3) := by decide +kernel
theorem dH_longestUnregistered_56 : decode prog_8_method_3_code 56 = .ok (.iload_n 2, 1) := by decide +kernel
theorem dH_longestUnregistered_57 : decode prog_8_method_3_code 57 = .ok (.ireturn, 1) := by decide +kernel
theorem dH_offerWire_0 : decode prog_8_method_4_code 0 = .ok (.aload_n 1, 1) := by decide +kernel
theorem dH_offerWire_1 : decode prog_8_method_4_code 1 = .ok (.iload_n 3, 1) := by decide +kernel
theorem dH_offerWire_2 : decode prog_8_method_4_code 2 = .ok (.invokevirtual 47, 3) := by decide +kernel
theorem dH_offerWire_5 : decode prog_8_method_4_code 5 = .ok (.istore 4, 2) := by decide +kernel
theorem dH_offerWire_7 : decode prog_8_method_4_code 7 = .ok (.aload_n 1, 1) := by decide +kernel
theorem dH_offerWire_8 : decode prog_8_method_4_code 8 = .ok (.iload_n 3, 1) := by decide +kernel
theorem dH_offerWire_9 : decode prog_8_method_4_code 9 = .ok (.invokevirtual 51, 3) := by decide +kernel
theorem dH_offerWire_12 : decode prog_8_method_4_code 12 = .ok (.istore 5, 2) := by decide +kernel
theorem dH_offerWire_14 : decode prog_8_method_4_code 14 = .ok (.iload 4, 2) := by decide +kernel
theorem dH_offerWire_16 : decode prog_8_method_4_code 16 = .ok (.ifCond .eq (36), 3) := by decide +kernel
theorem dH_offerWire_19 : decode prog_8_method_4_code 19 = .ok (.iload 5, 2) := by decide +kernel
theorem dH_offerWire_21 : decode prog_8_method_4_code 21 = .ok (.ifCond .eq (31), 3) := by decide +kernel
theorem dH_offerWire_24 : decode prog_8_method_4_code 24 = .ok (.aload_n 0, 1) := by decide +kernel
theorem dH_offerWire_25 : decode prog_8_method_4_code 25 = .ok (.iload 4, 2) := by decide +kernel
theorem dH_offerWire_27 : decode prog_8_method_4_code 27 = .ok (.iload 5, 2) := by decide +kernel
theorem dH_offerWire_29 : decode prog_8_method_4_code 29 = .ok (.aload_n 2, 1) := by decide +kernel
theorem dH_offerWire_30 : decode prog_8_method_4_code 30 = .ok (.iload_n 3, 1) := by decide +kernel
theorem dH_offerWire_31 : decode prog_8_method_4_code 31 = .ok (.invokevirtual 54, 3) := by decide +kernel
theorem dH_offerWire_34 : decode prog_8_method_4_code 34 = .ok (.aload_n 1, 1) := by decide +kernel
theorem dH_offerWire_35 : decode prog_8_method_4_code 35 = .ok (.getfield 25, 3) := by decide +kernel
theorem dH_offerWire_38 : decode prog_8_method_4_code 38 = .ok (.iload 4, 2) := by decide +kernel
theorem dH_offerWire_40 : decode prog_8_method_4_code 40 = .ok (.iaload, 1) := by decide +kernel
theorem dH_offerWire_41 : decode prog_8_method_4_code 41 = .ok (.aload_n 1, 1) := by decide +kernel
theorem dH_offerWire_42 : decode prog_8_method_4_code 42 = .ok (.getfield 25, 3) := by decide +kernel
theorem dH_offerWire_45 : decode prog_8_method_4_code 45 = .ok (.iload 5, 2) := by decide +kernel
theorem dH_offerWire_47 : decode prog_8_method_4_code 47 = .ok (.iaload, 1) := by decide +kernel
theorem dH_offerWire_48 : decode prog_8_method_4_code 48 = .ok (.iadd, 1) := by decide +kernel
theorem dH_offerWire_49 : decode prog_8_method_4_code 49 = .ok (.invokevirtual 29, 3) := by decide +kernel
theorem dH_offerWire_52 : decode prog_8_method_4_code 52 = .ok (.return_, 1) := by decide +kernel
theorem dH_offerOver_0 : decode prog_8_method_5_code 0 = .ok (.aload_n 0, 1) := by decide +kernel
theorem dH_offerOver_1 : decode prog_8_method_5_code 1 = .ok (.getfield 11, 3) := by decide +kernel
theorem dH_offerOver_4 : decode prog_8_method_5_code 4 = .ok (.iload_n 2, 1) := by decide +kernel
theorem dH_offerOver_5 : decode prog_8_method_5_code 5 = .ok (.aaload, 1) := by decide +kernel
theorem dH_offerOver_6 : decode prog_8_method_5_code 6 = .ok (.iload_n 3, 1) := by decide +kernel
theorem dH_offerOver_7 : decode prog_8_method_5_code 7 = .ok (.iaload, 1) := by decide +kernel
theorem dH_offerOver_8 : decode prog_8_method_5_code 8 = .ok (.iconst (-1), 1) := by decide +kernel
theorem dH_offerOver_9 : decode prog_8_method_5_code 9 = .ok (.if_icmp .ne (4), 3) := by decide +kernel
theorem dH_offerOver_12 : decode prog_8_method_5_code 12 = .ok (.return_, 1) := by decide +kernel
theorem dH_offerOver_13 : decode prog_8_method_5_code 13 = .ok (.iconst 1, 1) := by decide +kernel
theorem dH_offerOver_14 : decode prog_8_method_5_code 14 = .ok (.istore 4, 2) := by decide +kernel
theorem dH_offerOver_16 : decode prog_8_method_5_code 16 = .ok (.iload 4, 2) := by decide +kernel
theorem dH_offerOver_18 : decode prog_8_method_5_code 18 = .ok (.aload_n 1, 1) := by decide +kernel
theorem dH_offerOver_19 : decode prog_8_method_5_code 19 = .ok (.getfield 19, 3) := by decide +kernel
theorem dH_offerOver_22 : decode prog_8_method_5_code 22 = .ok (.if_icmp .gt (76), 3) := by decide +kernel
theorem dH_offerOver_25 : decode prog_8_method_5_code 25 = .ok (.aload_n 0, 1) := by decide +kernel
theorem dH_offerOver_26 : decode prog_8_method_5_code 26 = .ok (.getfield 11, 3) := by decide +kernel
theorem dH_offerOver_29 : decode prog_8_method_5_code 29 = .ok (.iload_n 3, 1) := by decide +kernel
theorem dH_offerOver_30 : decode prog_8_method_5_code 30 = .ok (.aaload, 1) := by decide +kernel
theorem dH_offerOver_31 : decode prog_8_method_5_code 31 = .ok (.iload 4, 2) := by decide +kernel
theorem dH_offerOver_33 : decode prog_8_method_5_code 33 = .ok (.iaload, 1) := by decide +kernel
theorem dH_offerOver_34 : decode prog_8_method_5_code 34 = .ok (.iconst (-1), 1) := by decide +kernel
theorem dH_offerOver_35 : decode prog_8_method_5_code 35 = .ok (.if_icmp .eq (57), 3) := by decide +kernel
theorem dH_offerOver_38 : decode prog_8_method_5_code 38 = .ok (.aload_n 0, 1) := by decide +kernel
theorem dH_offerOver_39 : decode prog_8_method_5_code 39 = .ok (.getfield 16, 3) := by decide +kernel
theorem dH_offerOver_42 : decode prog_8_method_5_code 42 = .ok (.iload_n 2, 1) := by decide +kernel
theorem dH_offerOver_43 : decode prog_8_method_5_code 43 = .ok (.aaload, 1) := by decide +kernel
theorem dH_offerOver_44 : decode prog_8_method_5_code 44 = .ok (.iload_n 3, 1) := by decide +kernel
theorem dH_offerOver_45 : decode prog_8_method_5_code 45 = .ok (.iaload, 1) := by decide +kernel
theorem dH_offerOver_46 : decode prog_8_method_5_code 46 = .ok (.aload_n 0, 1) := by decide +kernel
theorem dH_offerOver_47 : decode prog_8_method_5_code 47 = .ok (.getfield 16, 3) := by decide +kernel
theorem dH_offerOver_50 : decode prog_8_method_5_code 50 = .ok (.iload_n 3, 1) := by decide +kernel
theorem dH_offerOver_51 : decode prog_8_method_5_code 51 = .ok (.aaload, 1) := by decide +kernel
theorem dH_offerOver_52 : decode prog_8_method_5_code 52 = .ok (.iload 4, 2) := by decide +kernel
theorem dH_offerOver_54 : decode prog_8_method_5_code 54 = .ok (.iaload, 1) := by decide +kernel
theorem dH_offerOver_55 : decode prog_8_method_5_code 55 = .ok (.iadd, 1) := by decide +kernel
theorem dH_offerOver_56 : decode prog_8_method_5_code 56 = .ok (.aload_n 1, 1) := by decide +kernel
theorem dH_offerOver_57 : decode prog_8_method_5_code 57 = .ok (.getfield 25, 3) := by decide +kernel
theorem dH_offerOver_60 : decode prog_8_method_5_code 60 = .ok (.iload_n 3, 1) := by decide +kernel
theorem dH_offerOver_61 : decode prog_8_method_5_code 61 = .ok (.iaload, 1) := by decide +kernel
theorem dH_offerOver_62 : decode prog_8_method_5_code 62 = .ok (.isub, 1) := by decide +kernel
theorem dH_offerOver_63 : decode prog_8_method_5_code 63 = .ok (.istore 5, 2) := by decide +kernel
theorem dH_offerOver_65 : decode prog_8_method_5_code 65 = .ok (.aload_n 0, 1) := by decide +kernel
theorem dH_offerOver_66 : decode prog_8_method_5_code 66 = .ok (.iload_n 2, 1) := by decide +kernel
theorem dH_offerOver_67 : decode prog_8_method_5_code 67 = .ok (.iload 4, 2) := by decide +kernel
theorem dH_offerOver_69 : decode prog_8_method_5_code 69 = .ok (.aload_n 0, 1) := by decide +kernel
theorem dH_offerOver_70 : decode prog_8_method_5_code 70 = .ok (.getfield 11, 3) := by decide +kernel
theorem dH_offerOver_73 : decode prog_8_method_5_code 73 = .ok (.iload_n 2, 1) := by decide +kernel
theorem dH_offerOver_74 : decode prog_8_method_5_code 74 = .ok (.aaload, 1) := by decide +kernel
theorem dH_offerOver_75 : decode prog_8_method_5_code 75 = .ok (.iload_n 3, 1) := by decide +kernel
theorem dH_offerOver_76 : decode prog_8_method_5_code 76 = .ok (.iaload, 1) := by decide +kernel
theorem dH_offerOver_77 : decode prog_8_method_5_code 77 = .ok (.aload_n 0, 1) := by decide +kernel
theorem dH_offerOver_78 : decode prog_8_method_5_code 78 = .ok (.getfield 11, 3) := by decide +kernel
theorem dH_offerOver_81 : decode prog_8_method_5_code 81 = .ok (.iload_n 3, 1) := by decide +kernel
theorem dH_offerOver_82 : decode prog_8_method_5_code 82 = .ok (.aaload, 1) := by decide +kernel
theorem dH_offerOver_83 : decode prog_8_method_5_code 83 = .ok (.iload 4, 2) := by decide +kernel
theorem dH_offerOver_85 : decode prog_8_method_5_code 85 = .ok (.iaload, 1) := by decide +kernel
theorem dH_offerOver_86 : decode prog_8_method_5_code 86 = .ok (.iadd, 1) := by decide +kernel
theorem dH_offerOver_87 : decode prog_8_method_5_code 87 = .ok (.iload 5, 2) := by decide +kernel
theorem dH_offerOver_89 : decode prog_8_method_5_code 89 = .ok (.invokevirtual 29, 3) := by decide +kernel
theorem dH_offerOver_92 : decode prog_8_method_5_code 92 = .ok (.iinc 4 (1), 3) := by decide +kernel
theorem dH_offerOver_95 : decode prog_8_method_5_code 95 = .ok (.goto (-79), 3) := by decide +kernel
theorem dH_offerOver_98 : decode prog_8_method_5_code 98 = .ok (.return_, 1) := by decide +kernel
theorem dH_offer_0 : decode prog_8_method_6_code 0 = .ok (.aload_n 0, 1) := by decide +kernel
theorem dH_offer_1 : decode prog_8_method_6_code 1 = .ok (.getfield 11, 3) := by decide +kernel
theorem dH_offer_4 : decode prog_8_method_6_code 4 = .ok (.iload_n 1, 1) := by decide +kernel
theorem dH_offer_5 : decode prog_8_method_6_code 5 = .ok (.aaload, 1) := by decide +kernel
theorem dH_offer_6 : decode prog_8_method_6_code 6 = .ok (.iload_n 2, 1) := by decide +kernel
theorem dH_offer_7 : decode prog_8_method_6_code 7 = .ok (.iaload, 1) := by decide +kernel
theorem dH_offer_8 : decode prog_8_method_6_code 8 = .ok (.istore 5, 2) := by decide +kernel
theorem dH_offer_10 : decode prog_8_method_6_code 10 = .ok (.iload 5, 2) := by decide +kernel
theorem dH_offer_12 : decode prog_8_method_6_code 12 = .ok (.iconst (-1), 1) := by decide +kernel
theorem dH_offer_13 : decode prog_8_method_6_code 13 = .ok (.if_icmp .eq (28), 3) := by decide +kernel
theorem dH_offer_16 : decode prog_8_method_6_code 16 = .ok (.iload_n 3, 1) := by decide +kernel
theorem dH_offer_17 : decode prog_8_method_6_code 17 = .ok (.iload 5, 2) := by decide +kernel
theorem dH_offer_19 : decode prog_8_method_6_code 19 = .ok (.if_icmp .lt (22), 3) := by decide +kernel
theorem dH_offer_22 : decode prog_8_method_6_code 22 = .ok (.iload_n 3, 1) := by decide +kernel
theorem dH_offer_23 : decode prog_8_method_6_code 23 = .ok (.iload 5, 2) := by decide +kernel
theorem dH_offer_25 : decode prog_8_method_6_code 25 = .ok (.if_icmp .ne (35), 3) := by decide +kernel
theorem dH_offer_28 : decode prog_8_method_6_code 28 = .ok (.iload 4, 2) := by decide +kernel
theorem dH_offer_30 : decode prog_8_method_6_code 30 = .ok (.aload_n 0, 1) := by decide +kernel
theorem dH_offer_31 : decode prog_8_method_6_code 31 = .ok (.getfield 16, 3) := by decide +kernel
theorem dH_offer_34 : decode prog_8_method_6_code 34 = .ok (.iload_n 1, 1) := by decide +kernel
theorem dH_offer_35 : decode prog_8_method_6_code 35 = .ok (.aaload, 1) := by decide +kernel
theorem dH_offer_36 : decode prog_8_method_6_code 36 = .ok (.iload_n 2, 1) := by decide +kernel
theorem dH_offer_37 : decode prog_8_method_6_code 37 = .ok (.iaload, 1) := by decide +kernel
theorem dH_offer_38 : decode prog_8_method_6_code 38 = .ok (.if_icmp .le (22), 3) := by decide +kernel
theorem dH_offer_41 : decode prog_8_method_6_code 41 = .ok (.aload_n 0, 1) := by decide +kernel
theorem dH_offer_42 : decode prog_8_method_6_code 42 = .ok (.getfield 11, 3) := by decide +kernel
theorem dH_offer_45 : decode prog_8_method_6_code 45 = .ok (.iload_n 1, 1) := by decide +kernel
theorem dH_offer_46 : decode prog_8_method_6_code 46 = .ok (.aaload, 1) := by decide +kernel
theorem dH_offer_47 : decode prog_8_method_6_code 47 = .ok (.iload_n 2, 1) := by decide +kernel
theorem dH_offer_48 : decode prog_8_method_6_code 48 = .ok (.iload_n 3, 1) := by decide +kernel
theorem dH_offer_49 : decode prog_8_method_6_code 49 = .ok (.iastore, 1) := by decide +kernel
theorem dH_offer_50 : decode prog_8_method_6_code 50 = .ok (.aload_n 0, 1) := by decide +kernel
theorem dH_offer_51 : decode prog_8_method_6_code 51 = .ok (.getfield 16, 3) := by decide +kernel
theorem dH_offer_54 : decode prog_8_method_6_code 54 = .ok (.iload_n 1, 1) := by decide +kernel
theorem dH_offer_55 : decode prog_8_method_6_code 55 = .ok (.aaload, 1) := by decide +kernel
theorem dH_offer_56 : decode prog_8_method_6_code 56 = .ok (.iload_n 2, 1) := by decide +kernel
theorem dH_offer_57 : decode prog_8_method_6_code 57 = .ok (.iload 4, 2) := by decide +kernel
theorem dH_offer_59 : decode prog_8_method_6_code 59 = .ok (.iastore, 1) := by decide +kernel
theorem dH_offer_60 : decode prog_8_method_6_code 60 = .ok (.return_, 1) := by decide +kernel
theorem dP_addGate_0 : decode prog_9_method_2_code 0 = .ok (.aload_n 0, 1) := by decide +kernel
theorem dP_addGate_1 : decode prog_9_method_2_code 1 = .ok (.dup, 1) := by decide +kernel
theorem dP_addGate_2 : decode prog_9_method_2_code 2 = .ok (.getfield 21, 3) := by decide +kernel
theorem dP_addGate_5 : decode prog_9_method_2_code 5 = .ok (.iconst 1, 1) := by decide +kernel
theorem dP_addGate_6 : decode prog_9_method_2_code 6 = .ok (.iadd, 1) := by decide +kernel
theorem dP_addGate_7 : decode prog_9_method_2_code 7 = .ok (.putfield 21, 3) := by decide +kernel
theorem dP_addGate_10 : decode prog_9_method_2_code 10 = .ok (.aload_n 0, 1) := by decide +kernel
theorem dP_addGate_11 : decode prog_9_method_2_code 11 = .ok (.getfield 9, 3) := by decide +kernel
theorem dP_addGate_14 : decode prog_9_method_2_code 14 = .ok (.aload_n 0, 1) := by decide +kernel
theorem dP_addGate_15 : decode prog_9_method_2_code 15 = .ok (.getfield 21, 3) := by decide +kernel
theorem dP_addGate_18 : decode prog_9_method_2_code 18 = .ok (.iload_n 1, 1) := by decide +kernel
theorem dP_addGate_19 : decode prog_9_method_2_code 19 = .ok (.iastore, 1) := by decide +kernel
theorem dP_addGate_20 : decode prog_9_method_2_code 20 = .ok (.aload_n 0, 1) := by decide +kernel
theorem dP_addGate_21 : decode prog_9_method_2_code 21 = .ok (.getfield 15, 3) := by decide +kernel
theorem dP_addGate_24 : decode prog_9_method_2_code 24 = .ok (.aload_n 0, 1) := by decide +kernel
theorem dP_addGate_25 : decode prog_9_method_2_code 25 = .ok (.getfield 21, 3) := by decide +kernel
theorem dP_addGate_28 : decode prog_9_method_2_code 28 = .ok (.iload_n 2, 1) := by decide +kernel
theorem dP_addGate_29 : decode prog_9_method_2_code 29 = .ok (.iastore, 1) := by decide +kernel
theorem dP_addGate_30 : decode prog_9_method_2_code 30 = .ok (.return_, 1) := by decide +kernel
theorem dP_hasGate_0 : decode prog_9_method_3_code 0 = .ok (.iload_n 1, 1) := by decide +kernel
theorem dP_hasGate_1 : decode prog_9_method_3_code 1 = .ok (.iconst 1, 1) := by decide +kernel
theorem dP_hasGate_2 : decode prog_9_method_3_code 2 = .ok (.if_icmp .lt (15), 3) := by decide +kernel
theorem dP_hasGate_5 : decode prog_9_method_3_code 5 = .ok (.iload_n 1, 1) := by decide +kernel
theorem dP_hasGate_6 : decode prog_9_method_3_code 6 = .ok (.aload_n 0, 1) := by decide +kernel
theorem dP_hasGate_7 : decode prog_9_method_3_code 7 = .ok (.getfield 21, 3) := by decide +kernel
theorem dP_hasGate_10 : decode prog_9_method_3_code 10 = .ok (.if_icmp .gt (7), 3) := by decide +kernel
theorem dP_hasGate_13 : decode prog_9_method_3_code 13 = .ok (.iconst 1, 1) := by decide +kernel
theorem dP_hasGate_14 : decode prog_9_method_3_code 14 = .ok (.goto (4), 3) := by decide +kernel
theorem dP_hasGate_17 : decode prog_9_method_3_code 17 = .ok (.iconst 0, 1) := by decide +kernel
theorem dP_hasGate_18 : decode prog_9_method_3_code 18 = .ok (.ireturn, 1) := by decide +kernel
theorem dP_hasEnd_0 : decode prog_9_method_4_code 0 = .ok (.aload_n 0, 1) := by decide +kernel
theorem dP_hasEnd_1 : decode prog_9_method_4_code 1 = .ok (.iload_n 1, 1) := by decide +kernel
theorem dP_hasEnd_2 : decode prog_9_method_4_code 2 = .ok (.invokevirtual 25, 3) := by decide +kernel
theorem dP_hasEnd_5 : decode prog_9_method_4_code 5 = .ok (.ifCond .ne (10), 3) := by decide +kernel
theorem dP_hasEnd_8 : decode prog_9_method_4_code 8 = .ok (.iload_n 1, 1) := by decide +kernel
theorem dP_hasEnd_9 : decode prog_9_method_4_code 9 = .ok (.invokestatic 29, 3) := by decide +kernel
theorem dP_hasEnd_12 : decode prog_9_method_4_code 12 = .ok (.ifCond .eq (7), 3) := by decide +kernel
theorem dP_hasEnd_15 : decode prog_9_method_4_code 15 = .ok (.iconst 1, 1) := by decide +kernel
theorem dP_hasEnd_16 : decode prog_9_method_4_code 16 = .ok (.goto (4), 3) := by decide +kernel
theorem dP_hasEnd_19 : decode prog_9_method_4_code 19 = .ok (.iconst 0, 1) := by decide +kernel
theorem dP_hasEnd_20 : decode prog_9_method_4_code 20 = .ok (.ireturn, 1) := by decide +kernel
theorem dP_placeOf_0 : decode prog_9_method_5_code 0 = .ok (.iload_n 2, 1) := by decide +kernel
theorem dP_placeOf_1 : decode prog_9_method_5_code 1 = .ok (.ifCond .ge (5), 3) := by decide +kernel
theorem dP_placeOf_4 : decode prog_9_method_5_code 4 = .ok (.iconst (-1), 1) := by decide +kernel
theorem dP_placeOf_5 : decode prog_9_method_5_code 5 = .ok (.ireturn, 1) := by decide +kernel
theorem dP_placeOf_6 : decode prog_9_method_5_code 6 = .ok (.aload_n 0, 1) := by decide +kernel
theorem dP_placeOf_7 : decode prog_9_method_5_code 7 = .ok (.iload_n 1, 1) := by decide +kernel
theorem dP_placeOf_8 : decode prog_9_method_5_code 8 = .ok (.invokevirtual 25, 3) := by decide +kernel
theorem dP_placeOf_11 : decode prog_9_method_5_code 11 = .ok (.ifCond .eq (24), 3) := by decide +kernel
theorem dP_placeOf_14 : decode prog_9_method_5_code 14 = .ok (.iload_n 2, 1) := by decide +kernel
theorem dP_placeOf_15 : decode prog_9_method_5_code 15 = .ok (.aload_n 0, 1) := by decide +kernel
theorem dP_placeOf_16 : decode prog_9_method_5_code 16 = .ok (.iload_n 1, 1) := by decide +kernel
theorem dP_placeOf_17 : decode prog_9_method_5_code 17 = .ok (.invokevirtual 32, 3) := by decide +kernel
theorem dP_placeOf_20 : decode prog_9_method_5_code 20 = .ok (.if_icmp .ge (13), 3) := by decide +kernel
theorem dP_placeOf_23 : decode prog_9_method_5_code 23 = .ok (.aload_n 0, 1) := by decide +kernel
theorem dP_placeOf_24 : decode prog_9_method_5_code 24 = .ok (.iload_n 1, 1) := by decide +kernel
theorem dP_placeOf_25 : decode prog_9_method_5_code 25 = .ok (.invokevirtual 36, 3) := by decide +kernel
theorem dP_placeOf_28 : decode prog_9_method_5_code 28 = .ok (.iload_n 2, 1) := by decide +kernel
theorem dP_placeOf_29 : decode prog_9_method_5_code 29 = .ok (.iadd, 1) := by decide +kernel
theorem dP_placeOf_30 : decode prog_9_method_5_code 30 = .ok (.goto (4), 3) := by decide +kernel
theorem dP_placeOf_33 : decode prog_9_method_5_code 33 = .ok (.iconst (-1), 1) := by decide +kernel
theorem dP_placeOf_34 : decode prog_9_method_5_code 34 = .ok (.ireturn, 1) := by decide +kernel
theorem dP_placeOf_35 : decode prog_9_method_5_code 35 = .ok (.iload_n 1, 1) := by decide +kernel
theorem dP_placeOf_36 : decode prog_9_method_5_code 36 = .ok (.invokestatic 29, 3) := by decide +kernel
theorem dP_placeOf_39 : decode prog_9_method_5_code 39 = .ok (.ifCond .eq (14), 3) := by decide +kernel
theorem dP_placeOf_42 : decode prog_9_method_5_code 42 = .ok (.iload_n 2, 1) := by decide +kernel
theorem dP_placeOf_43 : decode prog_9_method_5_code 43 = .ok (.ifCond .ne (10), 3) := by decide +kernel
theorem dP_placeOf_46 : decode prog_9_method_5_code 46 = .ok (.bipush (23), 2) := by decide +kernel
theorem dP_placeOf_48 : decode prog_9_method_5_code 48 = .ok (.iload_n 1, 1) := by decide +kernel
theorem dP_placeOf_49 : decode prog_9_method_5_code 49 = .ok (.isub, 1) := by decide +kernel
theorem dP_placeOf_50 : decode prog_9_method_5_code 50 = .ok (.goto (4), 3) := by decide +kernel
theorem dP_placeOf_53 : decode prog_9_method_5_code 53 = .ok (.iconst (-1), 1) := by decide +kernel
theorem dP_placeOf_54 : decode prog_9_method_5_code 54 = .ok (.ireturn, 1) := by decide +kernel
theorem dP_pinsOf_0 : decode prog_9_method_6_code 0 = .ok (.aload_n 0, 1) := by decide +kernel
theorem dP_pinsOf_1 : decode prog_9_method_6_code 1 = .ok (.getfield 9, 3) := by decide +kernel
theorem dP_pinsOf_4 : decode prog_9_method_6_code 4 = .ok (.iload_n 1, 1) := by decide +kernel
theorem dP_pinsOf_5 : decode prog_9_method_6_code 5 = .ok (.iaload, 1) := by decide +kernel
theorem dP_pinsOf_6 : decode prog_9_method_6_code 6 = .ok (.iconst 1, 1) := by decide +kernel
theorem dP_pinsOf_7 : decode prog_9_method_6_code 7 = .ok (.if_icmp .gt (7), 3) := by decide +kernel
theorem dP_pinsOf_10 : decode prog_9_method_6_code 10 = .ok (.iconst 1, 1) := by decide +kernel
theorem dP_pinsOf_11 : decode prog_9_method_6_code 11 = .ok (.goto (4), 3) := by decide +kernel
theorem dP_pinsOf_14 : decode prog_9_method_6_code 14 = .ok (.iconst 2, 1) := by decide +kernel
theorem dP_pinsOf_15 : decode prog_9_method_6_code 15 = .ok (.ireturn, 1) := by decide +kernel
theorem dP_firstPin_0 : decode prog_9_method_7_code 0 = .ok (.iconst 2, 1) := by decide +kernel
theorem dP_firstPin_1 : decode prog_9_method_7_code 1 = .ok (.iload_n 1, 1) := by decide +kernel
theorem dP_firstPin_2 : decode prog_9_method_7_code 2 = .ok (.iconst 1, 1) := by decide +kernel
theorem dP_firstPin_3 : decode prog_9_method_7_code 3 = .ok (.isub, 1) := by decide +kernel
theorem dP_firstPin_4 : decode prog_9_method_7_code 4 = .ok (.imul, 1) := by decide +kernel
theorem dP_firstPin_5 : decode prog_9_method_7_code 5 = .ok (.ireturn, 1) := by decide +kernel
theorem dP_endOfPins_0 : decode prog_9_method_8_code 0 = .ok (.aload_n 0, 1) := by decide +kernel
theorem dP_endOfPins_1 : decode prog_9_method_8_code 1 = .ok (.iload_n 1, 1) := by decide +kernel
theorem dP_endOfPins_2 : decode prog_9_method_8_code 2 = .ok (.invokevirtual 36, 3) := by decide +kernel
theorem dP_endOfPins_5 : decode prog_9_method_8_code 5 = .ok (.aload_n 0, 1) := by decide +kernel
theorem dP_endOfPins_6 : decode prog_9_method_8_code 6 = .ok (.iload_n 1, 1) := by decide +kernel
theorem dP_endOfPins_7 : decode prog_9_method_8_code 7 = .ok (.invokevirtual 32, 3) := by decide +kernel
theorem dP_endOfPins_10 : decode prog_9_method_8_code 10 = .ok (.iadd, 1) := by decide +kernel
theorem dP_endOfPins_11 : decode prog_9_method_8_code 11 = .ok (.ireturn, 1) := by decide +kernel
theorem dP_gateBehind_0 : decode prog_9_method_9_code 0 = .ok (.aload_n 0, 1) := by decide +kernel
theorem dP_gateBehind_1 : decode prog_9_method_9_code 1 = .ok (.getfield 18, 3) := by decide +kernel
theorem dP_gateBehind_4 : decode prog_9_method_9_code 4 = .ok (.iload_n 1, 1) := by decide +kernel
theorem dP_gateBehind_5 : decode prog_9_method_9_code 5 = .ok (.iaload, 1) := by decide +kernel
theorem dP_gateBehind_6 : decode prog_9_method_9_code 6 = .ok (.iconst 0, 1) := by decide +kernel
theorem dP_gateBehind_7 : decode prog_9_method_9_code 7 = .ok (.invokestatic 39, 3) := by decide +kernel
theorem dP_gateBehind_10 : decode prog_9_method_9_code 10 = .ok (.ireturn, 1) := by decide +kernel
theorem dP_gateBefore_0 : decode prog_9_method_10_code 0 = .ok (.iload_n 1, 1) := by decide +kernel
theorem dP_gateBefore_1 : decode prog_9_method_10_code 1 = .ok (.bipush (24), 2) := by decide +kernel
theorem dP_gateBefore_3 : decode prog_9_method_10_code 3 = .ok (.if_icmp .ge (11), 3) := by decide +kernel
theorem dP_gateBefore_6 : decode prog_9_method_10_code 6 = .ok (.iload_n 1, 1) := by decide +kernel
theorem dP_gateBefore_7 : decode prog_9_method_10_code 7 = .ok (.iconst 2, 1) := by decide +kernel
theorem dP_gateBefore_8 : decode prog_9_method_10_code 8 = .ok (.idiv, 1) := by decide +kernel
theorem dP_gateBefore_9 : decode prog_9_method_10_code 9 = .ok (.iconst 1, 1) := by decide +kernel
theorem dP_gateBefore_10 : decode prog_9_method_10_code 10 = .ok (.iadd, 1) := by decide +kernel
theorem dP_gateBefore_11 : decode prog_9_method_10_code 11 = .ok (.goto (4), 3) := by decide +kernel
theorem dP_gateBefore_14 : decode prog_9_method_10_code 14 = .ok (.iconst 0, 1) := by decide +kernel
theorem dP_gateBefore_15 : decode prog_9_method_10_code 15 = .ok (.ireturn, 1) := by decide +kernel
theorem dP_isComplete_0 : decode prog_9_method_11_code 0 = .ok (.iconst 1, 1) := by decide +kernel
theorem dP_isComplete_1 : decode prog_9_method_11_code 1 = .ok (.istore_n 1, 1) := by decide +kernel
theorem dP_isComplete_2 : decode prog_9_method_11_code 2 = .ok (.iload_n 1, 1) := by decide +kernel
theorem dP_isComplete_3 : decode prog_9_method_11_code 3 = .ok (.aload_n 0, 1) := by decide +kernel
theorem dP_isComplete_4 : decode prog_9_method_11_code 4 = .ok (.getfield 21, 3) := by decide +kernel
theorem dP_isComplete_7 : decode prog_9_method_11_code 7 = .ok (.if_icmp .gt (27), 3) := by decide +kernel
theorem dP_isComplete_10 : decode prog_9_method_11_code 10 = .ok (.aload_n 0, 1) := by decide +kernel
theorem dP_isComplete_11 : decode prog_9_method_11_code 11 = .ok (.iload_n 1, 1) := by decide +kernel
theorem dP_isComplete_12 : decode prog_9_method_11_code 12 = .ok (.invokevirtual 45, 3) := by decide +kernel
theorem dP_isComplete_15 : decode prog_9_method_11_code 15 = .ok (.ifCond .eq (11), 3) := by decide +kernel
theorem dP_isComplete_18 : decode prog_9_method_11_code 18 = .ok (.aload_n 0, 1) := by decide +kernel
theorem dP_isComplete_19 : decode prog_9_method_11_code 19 = .ok (.iload_n 1, 1) := by decide +kernel
theorem dP_isComplete_20 : decode prog_9_method_11_code 20 = .ok (.invokevirtual 48, 3) := by decide +kernel
theorem dP_isComplete_23 : decode prog_9_method_11_code 23 = .ok (.ifCond .ne (5), 3) := by decide +kernel
theorem dP_isComplete_26 : decode prog_9_method_11_code 26 = .ok (.iconst 0, 1) := by decide +kernel
theorem dP_isComplete_27 : decode prog_9_method_11_code 27 = .ok (.ireturn, 1) := by decide +kernel
theorem dP_isComplete_28 : decode prog_9_method_11_code 28 = .ok (.iinc 1 (1), 3) := by decide +kernel
theorem dP_isComplete_31 : decode prog_9_method_11_code 31 = .ok (.goto (-29), 3) := by decide +kernel
theorem dP_isComplete_34 : decode prog_9_method_11_code 34 = .ok (.iconst 1, 1) := by decide +kernel
theorem dP_isComplete_35 : decode prog_9_method_11_code 35 = .ok (.ireturn, 1) := by decide +kernel
theorem dP_isPort_0 : decode prog_9_method_12_code 0 = .ok (.iload_n 0, 1) := by decide +kernel
theorem dP_isPort_1 : decode prog_9_method_12_code 1 = .ok (.bipush (-3), 2) := by decide +kernel
theorem dP_isPort_3 : decode prog_9_method_12_code 3 = .ok (.if_icmp .lt (12), 3) := by decide +kernel
theorem dP_isPort_6 : decode prog_9_method_12_code 6 = .ok (.iload_n 0, 1) := by decide +kernel
theorem dP_isPort_7 : decode prog_9_method_12_code 7 = .ok (.iconst (-1), 1) := by decide +kernel
theorem dP_isPort_8 : decode prog_9_method_12_code 8 = .ok (.if_icmp .gt (7), 3) := by decide +kernel
theorem dP_isPort_11 : decode prog_9_method_12_code 11 = .ok (.iconst 1, 1) := by decide +kernel
theorem dP_isPort_12 : decode prog_9_method_12_code 12 = .ok (.goto (4), 3) := by decide +kernel
theorem dP_isPort_15 : decode prog_9_method_12_code 15 = .ok (.iconst 0, 1) := by decide +kernel
theorem dP_isPort_16 : decode prog_9_method_12_code 16 = .ok (.ireturn, 1) := by decide +kernel
theorem dP_hasAllPins_0 : decode prog_9_method_13_code 0 = .ok (.aload_n 0, 1) := by decide +kernel
theorem dP_hasAllPins_1 : decode prog_9_method_13_code 1 = .ok (.iload_n 1, 1) := by decide +kernel
theorem dP_hasAllPins_2 : decode prog_9_method_13_code 2 = .ok (.invokevirtual 36, 3) := by decide +kernel
theorem dP_hasAllPins_5 : decode prog_9_method_13_code 5 = .ok (.istore_n 2, 1) := by decide +kernel
theorem dP_hasAllPins_6 : decode prog_9_method_13_code 6 = .ok (.iload_n 2, 1) := by decide +kernel
theorem dP_hasAllPins_7 : decode prog_9_method_13_code 7 = .ok (.aload_n 0, 1) := by decide +kernel
theorem dP_hasAllPins_8 : decode prog_9_method_13_code 8 = .ok (.iload_n 1, 1) := by decide +kernel
theorem dP_hasAllPins_9 : decode prog_9_method_13_code 9 = .ok (.invokevirtual 51, 3) := by decide +kernel
theorem dP_hasAllPins_12 : decode prog_9_method_13_code 12 = .ok (.if_icmp .ge (20), 3) := by decide +kernel
theorem dP_hasAllPins_15 : decode prog_9_method_13_code 15 = .ok (.aload_n 0, 1) := by decide +kernel
theorem dP_hasAllPins_16 : decode prog_9_method_13_code 16 = .ok (.getfield 18, 3) := by decide +kernel
theorem dP_hasAllPins_19 : decode prog_9_method_13_code 19 = .ok (.iload_n 2, 1) := by decide +kernel
theorem dP_hasAllPins_20 : decode prog_9_method_13_code 20 = .ok (.iaload, 1) := by decide +kernel
theorem dP_hasAllPins_21 : decode prog_9_method_13_code 21 = .ok (.ifCond .ne (5), 3) := by decide +kernel
theorem dP_hasAllPins_24 : decode prog_9_method_13_code 24 = .ok (.iconst 0, 1) := by decide +kernel
theorem dP_hasAllPins_25 : decode prog_9_method_13_code 25 = .ok (.ireturn, 1) := by decide +kernel
theorem dP_hasAllPins_26 : decode prog_9_method_13_code 26 = .ok (.iinc 2 (1), 3) := by decide +kernel
theorem dP_hasAllPins_29 : decode prog_9_method_13_code 29 = .ok (.goto (-23), 3) := by decide +kernel
theorem dP_hasAllPins_32 : decode prog_9_method_13_code 32 = .ok (.iconst 1, 1) := by decide +kernel
theorem dP_hasAllPins_33 : decode prog_9_method_13_code 33 = .ok (.ireturn, 1) := by decide +kernel
theorem dP_isSource_0 : decode prog_9_method_14_code 0 = .ok (.iconst 0, 1) := by decide +kernel
theorem dP_isSource_1 : decode prog_9_method_14_code 1 = .ok (.istore_n 2, 1) := by decide +kernel
theorem dP_isSource_2 : decode prog_9_method_14_code 2 = .ok (.iload_n 2, 1) := by decide +kernel
theorem dP_isSource_3 : decode prog_9_method_14_code 3 = .ok (.bipush (27), 2) := by decide +kernel
theorem dP_isSource_5 : decode prog_9_method_14_code 5 = .ok (.if_icmp .ge (21), 3) := by decide +kernel
theorem dP_isSource_8 : decode prog_9_method_14_code 8 = .ok (.aload_n 0, 1) := by decide +kernel
theorem dP_isSource_9 : decode prog_9_method_14_code 9 = .ok (.getfield 18, 3) := by decide +kernel
theorem dP_isSource_12 : decode prog_9_method_14_code 12 = .ok (.iload_n 2, 1) := by decide +kernel
theorem dP_isSource_13 : decode prog_9_method_14_code 13 = .ok (.iaload, 1) := by decide +kernel
theorem dP_isSource_14 : decode prog_9_method_14_code 14 = .ok (.iload_n 1, 1) := by decide +kernel
theorem dP_isSource_15 : decode prog_9_method_14_code 15 = .ok (.if_icmp .ne (5), 3) := by decide +kernel
theorem dP_isSource_18 : decode prog_9_method_14_code 18 = .ok (.iconst 1, 1) := by decide +kernel
theorem dP_isSource_19 : decode prog_9_method_14_code 19 = .ok (.ireturn, 1) := by decide +kernel
theorem dP_isSource_20 : decode prog_9_method_14_code 20 = .ok (.iinc 2 (1), 3) := by decide +kernel
theorem dP_isSource_23 : decode prog_9_method_14_code 23 = .ok (.goto (-21), 3) := by decide +kernel
theorem dP_isSource_26 : decode prog_9_method_14_code 26 = .ok (.iconst 0, 1) := by decide +kernel
theorem dP_isSource_27 : decode prog_9_method_14_code 27 = .ok (.ireturn, 1) := by decide +kernel
